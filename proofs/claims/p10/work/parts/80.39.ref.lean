/-! Conditions of the reference's methods, by program (39). -/
-- NestedVectorsModel.node
def V_node (σ : sg_S) (a1 : Int) (a2 : Int) (Q : Int → sg_S → Prop) : Prop := ∀ σ1, σ1 = (sg_w σ 88 0 (0)) → ((¬ (sg_g σ 88 28) = 0 → sg_R ((sg_g σ 88 8) - 1) ∧ ((¬ (v_in (a1) (0) (((sg_g σ 88 8) - 1))) = 0 → ((¬ a2 = 0 → ((¬ a2 = 1 → Q ((-2)) σ1) ∧ (a2 = 1 → (0 ≤ a1 ∧ a1 < 210) ∧ Q ((sg_g σ 101 (a1))) σ1))) ∧ (a2 = 0 → (0 ≤ a1 ∧ a1 < 210) ∧ Q ((sg_g σ 94 (a1))) σ1))) ∧ ((v_in (a1) (0) (((sg_g σ 88 8) - 1))) = 0 → Q ((-1)) σ1))) ∧ ((sg_g σ 88 28) = 0 → Q ((-4)) σ1))
set_option maxHeartbeats 4000000 in
set_option maxRecDepth 8000 in
theorem w_node (z : Value) (σ : sg_S) (a1 : Int) (a2 : Int) (Q : Int → sg_S → Prop) (ra1 : sg_R a1) (ra2 : sg_R a2) (w : V_node σ a1 a2 Q) : wx z 1 295 0 [(0, .inr (.inr (.ref 88))), (1, .inl (a1)), (2, .inl (a2))] [] σ (fun v σ' => ∃ q, v = some (.inl q) ∧ sg_R q ∧ sg_F [1088] σ σ' ∧ Q q σ') := by
  unfold V_node at w
  refine wk_b tt_295 3 (pc' := 5) (ls' := [(0, .inr (.inr (.ref 88))), (1, .inl (a1)), (2, .inl (a2))]) (st' := []) (σ' := (sg_w σ 88 0 (0))) rfl ?_
  generalize hs2 : (sg_w σ 88 0 (0)) = σ1
  have w := w σ1 hs2.symm
  have hF3 : sg_F [1088] σ σ1 := by rw [← hs2]; exact sg_F_w (sg_F_r _ _) rfl _
  refine wk_b tt_295 2 (pc' := 9) (ls' := [(0, .inr (.inr (.ref 88))), (1, .inl (a1)), (2, .inl (a2))]) (st' := [.inl ((sg_g σ1 88 28))]) (σ' := σ1) rfl ?_
  rw [show (sg_g σ1 88 28) = (sg_g σ 88 28) from by rw [sg_F_g hF3 rfl]]
  refine wk_if tt_295 (tgt := 15) rfl rfl (sg_Rg _ _ _) (fun (h4 : ¬ (sg_g σ 88 28) = 0) => ?_) (fun (h4 : (sg_g σ 88 28) = 0) => ?_)
  ·
    have w := w.1 h4
    obtain ⟨c5, w⟩ := w
    refine wk_b tt_295 8 (pc' := 25) (ls' := [(0, .inr (.inr (.ref 88))), (1, .inl (a1)), (2, .inl (a2))]) (st' := [.inr (.inl ((sg_n (((sg_g σ1 88 8) - 1))))), .inr (.inl (0)), .inr (.inl ((sg_n (a1))))]) (σ' := σ1) rfl ?_
    rw [show (sg_n (a1)) = a1 from by rw [sg_id ra1]]
    rw [show (sg_g σ1 88 8) = (sg_g σ 88 8) from by rw [sg_F_g hF3 rfl]]
    rw [show (sg_n (((sg_g σ 88 8) - 1))) = ((sg_g σ 88 8) - 1) from by rw [sg_id c5]]
    refine wk_callp tt_295 rfl rfl rfl rfl rfl tt_258 rfl (by decide) (w_in z σ1 (a1) (0) (((sg_g σ 88 8) - 1)) (sg_Rgl2 ra1) (by decide) (sg_Rgl2 c5) ) ?_
    refine wk_if tt_295 (tgt := 33) rfl rfl (sg_Rz (vz_in ..)) (fun (h6 : ¬ (v_in (a1) (0) (((sg_g σ 88 8) - 1))) = 0) => ?_) (fun (h6 : (v_in (a1) (0) (((sg_g σ 88 8) - 1))) = 0) => ?_)
    ·
      have w := w.1 h6
      refine wk_b tt_295 1 (pc' := 34) (ls' := [(0, .inr (.inr (.ref 88))), (1, .inl (a1)), (2, .inl (a2))]) (st' := [.inl (a2)]) (σ' := σ1) rfl ?_
      refine wk_if tt_295 (tgt := 46) rfl rfl ra2 (fun (h7 : ¬ a2 = 0) => ?_) (fun (h7 : a2 = 0) => ?_)
      ·
        have w := w.1 h7
        refine wk_b tt_295 2 (pc' := 48) (ls' := [(0, .inr (.inr (.ref 88))), (1, .inl (a1)), (2, .inl (a2))]) (st' := [.inl (1), .inl (a2)]) (σ' := σ1) rfl ?_
        refine wk_if2 tt_295 (tgt := 60) rfl rfl ra2 (by decide) (fun (h8 : ¬ a2 = 1) => ?_) (fun (h8 : a2 = 1) => ?_)
        ·
          have w := w.1 h8
          refine wk_b tt_295 1 (pc' := 62) (ls' := [(0, .inr (.inr (.ref 88))), (1, .inl (a1)), (2, .inl (a2))]) (st' := [.inl ((-2))]) (σ' := σ1) rfl ?_
          exact wk_rI tt_295 rfl rfl ⟨_, rfl, (by decide), (sg_F_t (sg_F_r [1088] σ) (sg_F_m (L := [1088]) hF3 rfl)), w⟩
        ·
          have w := w.2 h8
          refine wk_b tt_295 3 (pc' := 56) (ls' := [(0, .inr (.inr (.ref 88))), (1, .inl (a1)), (2, .inl (a2))]) (st' := [.inl (a1), .inr (.inr (.ref 101))]) (σ' := σ1) rfl ?_
          obtain ⟨c9, w⟩ := w
          refine wk_ia tt_295 rfl rfl c9.1 c9.2 ra1 ?_
          rw [show (sg_g σ1 101 (a1)) = (sg_g σ 101 (a1)) from by rw [sg_F_ga hF3 rfl]]
          refine wk_b tt_295 1 (pc' := 62) (ls' := [(0, .inr (.inr (.ref 88))), (1, .inl (a1)), (2, .inl (a2))]) (st' := [.inl ((sg_g σ 101 (a1)))]) (σ' := σ1) rfl ?_
          exact wk_rI tt_295 rfl rfl ⟨_, rfl, (sg_Rg _ _ _), (sg_F_t (sg_F_r [1088] σ) (sg_F_m (L := [1088]) hF3 rfl)), w⟩
      ·
        have w := w.2 h7
        refine wk_b tt_295 3 (pc' := 42) (ls' := [(0, .inr (.inr (.ref 88))), (1, .inl (a1)), (2, .inl (a2))]) (st' := [.inl (a1), .inr (.inr (.ref 94))]) (σ' := σ1) rfl ?_
        obtain ⟨c10, w⟩ := w
        refine wk_ia tt_295 rfl rfl c10.1 c10.2 ra1 ?_
        rw [show (sg_g σ1 94 (a1)) = (sg_g σ 94 (a1)) from by rw [sg_F_ga hF3 rfl]]
        refine wk_b tt_295 1 (pc' := 62) (ls' := [(0, .inr (.inr (.ref 88))), (1, .inl (a1)), (2, .inl (a2))]) (st' := [.inl ((sg_g σ 94 (a1)))]) (σ' := σ1) rfl ?_
        exact wk_rI tt_295 rfl rfl ⟨_, rfl, (sg_Rg _ _ _), (sg_F_t (sg_F_r [1088] σ) (sg_F_m (L := [1088]) hF3 rfl)), w⟩
    ·
      have w := w.2 h6
      refine wk_b tt_295 1 (pc' := 32) (ls' := [(0, .inr (.inr (.ref 88))), (1, .inl (a1)), (2, .inl (a2))]) (st' := [.inl ((-1))]) (σ' := σ1) rfl ?_
      exact wk_rI tt_295 rfl rfl ⟨_, rfl, (by decide), (sg_F_t (sg_F_r [1088] σ) (sg_F_m (L := [1088]) hF3 rfl)), w⟩
  ·
    have w := w.2 h4
    refine wk_b tt_295 1 (pc' := 14) (ls' := [(0, .inr (.inr (.ref 88))), (1, .inl (a1)), (2, .inl (a2))]) (st' := [.inl ((-4))]) (σ' := σ1) rfl ?_
    exact wk_rI tt_295 rfl rfl ⟨_, rfl, (by decide), (sg_F_t (sg_F_r [1088] σ) (sg_F_m (L := [1088]) hF3 rfl)), w⟩
-- NestedVectorsModel.readType
def V_readType (σ : sg_S) (Q : Int → sg_S → Prop) : Prop := (∃ (I4 : Nat → Int → sg_S → Prop) (X6 : Int → sg_S → Prop), (∃ n, I4 n (0) σ) ∧ (∀ (n14 : Nat) (v1 : Int) (σ2 : sg_S), sg_R v1 → sg_F [8088, 30088, 31088] σ σ2 → I4 n14 v1 σ2 → p_isSignNow σ2 (91) ∧ (((v_isSignNow σ2 (91)) = 0 → X6 (v1) σ2) ∧ (¬ (v_isSignNow σ2 (91)) = 0 → ((¬ (sg_g σ2 88 29) = 0 → X6 (v1) σ2) ∧ ((sg_g σ2 88 29) = 0 → V_want σ2 (1) (fun σ53 => sg_F [8088, 30088, 31088] σ2 σ53 → sg_R (v1 + 1) ∧ (∃ m, m < n14 ∧ I4 m ((v1 + 1)) σ53))))))) ∧ (∀ (v1 : Int) (σ2 : sg_S), sg_R v1 → sg_F [8088, 30088, 31088] σ σ2 → X6 v1 σ2 → p_isWord σ2 (6909556) ∧ V_want σ2 ((v_isWord σ2 (6909556))) (fun σ18 => sg_F [8088, 30088, 31088] σ2 σ18 → (∃ (I26 : Nat → Int → sg_S → Prop) (X28 : sg_S → Prop), (∃ n, I26 n (0) σ18) ∧ (∀ (n36 : Nat) (v23 : Int) (σ24 : sg_S), sg_R v23 → sg_F [8088, 30088, 31088] σ18 σ24 → I26 n36 v23 σ24 → ((v1 ≤ v23 → X28 σ24) ∧ (v23 < v1 → ((¬ (sg_g σ24 88 29) = 0 → X28 σ24) ∧ ((sg_g σ24 88 29) = 0 → p_isSignNow σ24 (93) ∧ V_want σ24 ((v_isSignNow σ24 (93))) (fun σ42 => sg_F [8088, 30088, 31088] σ24 σ42 → sg_R (v23 + 1) ∧ (∃ m, m < n36 ∧ I26 m ((v23 + 1)) σ42))))))) ∧ (∀ (σ24 : sg_S), sg_F [8088, 30088, 31088] σ18 σ24 → X28 σ24 → Q (v1) σ24)))))
set_option maxHeartbeats 4000000 in
set_option maxRecDepth 8000 in
theorem w_readType (z : Value) (σ : sg_S) (Q : Int → sg_S → Prop)  (w : V_readType σ  Q) : wx z 4 319 0 [(0, .inr (.inr (.ref 88)))] [] σ (fun v σ' => ∃ q, v = some (.inl q) ∧ sg_R q ∧ sg_F [8088, 30088, 31088] σ σ' ∧ Q q σ') := by
  unfold V_readType at w
  refine wk_b tt_319 2 (pc' := 2) (ls' := [(1, .inl (0)), (0, .inr (.inr (.ref 88)))]) (st' := []) (σ' := σ) rfl ?_
  obtain ⟨I4, X6, ⟨μ5, w11⟩, w12, w13⟩ := w
  have ex15 : ∀ (v1 : Int) (σ2 : sg_S), sg_R v1 → sg_F [8088, 30088, 31088] σ σ2 → X6 v1 σ2 → wx z 4 319 29 [(0, .inr (.inr (.ref 88))), (1, .inl (v1))] [] σ2 (fun v σ' => ∃ q, v = some (.inl q) ∧ sg_R q ∧ sg_F [8088, 30088, 31088] σ σ' ∧ Q q σ') := by
    intro v1 σ2 r7 hF3 w
    have w := w13 v1 σ2 r7 hF3 w
    refine wk_b tt_319 3 (pc' := 34) (ls' := [(0, .inr (.inr (.ref 88))), (1, .inl (v1))]) (st' := [.inr (.inl (6909556)), .inr (.inr (.ref 88)), .inr (.inr (.ref 88))]) (σ' := σ2) rfl ?_
    obtain ⟨c16, w⟩ := w
    refine wk_callp tt_319 rfl rfl rfl rfl rfl tt_269 rfl (by decide) (w_isWord z σ2 (6909556) (by decide) c16) ?_
    refine wk_call tt_319 rfl rfl rfl rfl rfl tt_334 rfl (by decide) (w_want z σ2 ((v_isWord σ2 (6909556))) _ (sg_Rz (vz_isWord ..)) w) (fun u22 σ18 hq20 => ?_)
    obtain ⟨rfl, hF19, w⟩ := hq20
    have w := w hF19
    refine wk_b tt_319 2 (pc' := 42) (ls' := [(2, .inl (0)), (0, .inr (.inr (.ref 88))), (1, .inl (v1))]) (st' := []) (σ' := σ18) rfl ?_
    obtain ⟨I26, X28, ⟨μ27, w33⟩, w34, w35⟩ := w
    have ex37 : ∀ (σ24 : sg_S), sg_F [8088, 30088, 31088] σ18 σ24 → X28 σ24 → wx z 4 319 70 [(1, .inl (v1))] [] σ24 (fun v σ' => ∃ q, v = some (.inl q) ∧ sg_R q ∧ sg_F [8088, 30088, 31088] σ σ' ∧ Q q σ') := by
      intro σ24 hF25 w
      have w := w35 σ24 hF25 w
      refine wk_b tt_319 1 (pc' := 71) (ls' := [(1, .inl (v1))]) (st' := [.inl (v1)]) (σ' := σ24) rfl ?_
      exact wk_rI tt_319 rfl rfl ⟨_, rfl, r7, (sg_F_t (sg_F_t (sg_F_t (sg_F_r [8088, 30088, 31088] σ) (sg_F_m (L := [8088, 30088, 31088]) hF3 rfl)) (sg_F_m (L := [8088, 30088, 31088]) hF19 rfl)) (sg_F_m (L := [8088, 30088, 31088]) hF25 rfl)), w⟩
    have lp32 : ∀ (n36 : Nat) (v23 : Int) (σ24 : sg_S), sg_R v23 → sg_F [8088, 30088, 31088] σ18 σ24 → I26 n36 v23 σ24 → wx z 4 319 42 [(0, .inr (.inr (.ref 88))), (1, .inl (v1)), (2, .inl (v23))] [] σ24 (fun v σ' => ∃ q, v = some (.inl q) ∧ sg_R q ∧ sg_F [8088, 30088, 31088] σ σ' ∧ Q q σ') := by
      intro n36
      induction n36 using Nat.strongRecOn with
      | _ n36 ih30 =>
        intro v23 σ24 r29 hF25 w
        have w := w34 n36 v23 σ24 r29 hF25 w
        refine wk_b tt_319 2 (pc' := 44) (ls' := [(0, .inr (.inr (.ref 88))), (1, .inl (v1)), (2, .inl (v23))]) (st' := [.inl (v1), .inl (v23)]) (σ' := σ24) rfl ?_
        refine wk_if2 tt_319 (tgt := 70) rfl rfl r29 r7 (fun (h38 : v1 ≤ v23) => ?_) (fun (h38 : v23 < v1) => ?_)
        ·
          have w := w.1 h38
          exact wk_ls [(1, .inl (v1))] rfl ⟨rfl, trivial⟩ (ex37  σ24  (sg_F_t (sg_F_r [8088, 30088, 31088] σ18) (sg_F_m (L := [8088, 30088, 31088]) hF25 rfl)) w)
        ·
          have w := w.2 h38
          refine wk_b tt_319 2 (pc' := 51) (ls' := [(0, .inr (.inr (.ref 88))), (1, .inl (v1)), (2, .inl (v23))]) (st' := [.inl ((sg_g σ24 88 29))]) (σ' := σ24) rfl ?_
          refine wk_if tt_319 (tgt := 70) rfl rfl (sg_Rg _ _ _) (fun (h39 : ¬ (sg_g σ24 88 29) = 0) => ?_) (fun (h39 : (sg_g σ24 88 29) = 0) => ?_)
          ·
            have w := w.1 h39
            exact wk_ls [(1, .inl (v1))] rfl ⟨rfl, trivial⟩ (ex37  σ24  (sg_F_t (sg_F_r [8088, 30088, 31088] σ18) (sg_F_m (L := [8088, 30088, 31088]) hF25 rfl)) w)
          ·
            have w := w.2 h39
            refine wk_b tt_319 3 (pc' := 58) (ls' := [(0, .inr (.inr (.ref 88))), (1, .inl (v1)), (2, .inl (v23))]) (st' := [.inl (93), .inr (.inr (.ref 88)), .inr (.inr (.ref 88))]) (σ' := σ24) rfl ?_
            obtain ⟨c40, w⟩ := w
            refine wk_callp tt_319 rfl rfl rfl rfl rfl tt_268 rfl (by decide) (w_isSignNow z σ24 (93) (by decide) c40) ?_
            refine wk_call tt_319 rfl rfl rfl rfl rfl tt_334 rfl (by decide) (w_want z σ24 ((v_isSignNow σ24 (93))) _ (sg_Rz (vz_isSignNow ..)) w) (fun u46 σ42 hq44 => ?_)
            obtain ⟨rfl, hF43, w⟩ := hq44
            have w := w hF43
            obtain ⟨c47, w⟩ := w
            refine wk_b tt_319 2 (pc' := 42) (ls' := [(2, .inl ((v23 + 1))), (0, .inr (.inr (.ref 88))), (1, .inl (v1))]) (st' := []) (σ' := σ42) rfl ?_
            obtain ⟨m48, hm48, w⟩ := w
            exact wk_ls [(0, .inr (.inr (.ref 88))), (1, .inl (v1)), (2, .inl ((v23 + 1)))] rfl ⟨rfl, rfl, rfl, trivial⟩ (ih30 m48 hm48 ((v23 + 1)) σ42 c47 (sg_F_t (sg_F_t (sg_F_r [8088, 30088, 31088] σ18) (sg_F_m (L := [8088, 30088, 31088]) hF25 rfl)) (sg_F_m (L := [8088, 30088, 31088]) hF43 rfl)) w)
    exact wk_ls [(0, .inr (.inr (.ref 88))), (1, .inl (v1)), (2, .inl (0))] rfl ⟨rfl, rfl, rfl, trivial⟩ (lp32 μ27 (0) σ18 (by decide) (sg_F_r _ _) w33)
  have lp10 : ∀ (n14 : Nat) (v1 : Int) (σ2 : sg_S), sg_R v1 → sg_F [8088, 30088, 31088] σ σ2 → I4 n14 v1 σ2 → wx z 4 319 2 [(0, .inr (.inr (.ref 88))), (1, .inl (v1))] [] σ2 (fun v σ' => ∃ q, v = some (.inl q) ∧ sg_R q ∧ sg_F [8088, 30088, 31088] σ σ' ∧ Q q σ') := by
    intro n14
    induction n14 using Nat.strongRecOn with
    | _ n14 ih8 =>
      intro v1 σ2 r7 hF3 w
      have w := w12 n14 v1 σ2 r7 hF3 w
      refine wk_b tt_319 2 (pc' := 5) (ls' := [(0, .inr (.inr (.ref 88))), (1, .inl (v1))]) (st' := [.inl (91), .inr (.inr (.ref 88))]) (σ' := σ2) rfl ?_
      obtain ⟨c49, w⟩ := w
      refine wk_callp tt_319 rfl rfl rfl rfl rfl tt_268 rfl (by decide) (w_isSignNow z σ2 (91) (by decide) c49) ?_
      refine wk_if tt_319 (tgt := 29) rfl rfl (sg_Rz (vz_isSignNow ..)) (fun (h50 : (v_isSignNow σ2 (91)) = 0) => ?_) (fun (h50 : ¬ (v_isSignNow σ2 (91)) = 0) => ?_)
      ·
        have w := w.1 h50
        exact wk_ls [(0, .inr (.inr (.ref 88))), (1, .inl (v1))] rfl ⟨rfl, rfl, trivial⟩ (ex15 (v1) σ2 r7 (sg_F_t (sg_F_r [8088, 30088, 31088] σ) (sg_F_m (L := [8088, 30088, 31088]) hF3 rfl)) w)
      ·
        have w := w.2 h50
        refine wk_b tt_319 2 (pc' := 15) (ls' := [(0, .inr (.inr (.ref 88))), (1, .inl (v1))]) (st' := [.inl ((sg_g σ2 88 29))]) (σ' := σ2) rfl ?_
        refine wk_if tt_319 (tgt := 29) rfl rfl (sg_Rg _ _ _) (fun (h51 : ¬ (sg_g σ2 88 29) = 0) => ?_) (fun (h51 : (sg_g σ2 88 29) = 0) => ?_)
        ·
          have w := w.1 h51
          exact wk_ls [(0, .inr (.inr (.ref 88))), (1, .inl (v1))] rfl ⟨rfl, rfl, trivial⟩ (ex15 (v1) σ2 r7 (sg_F_t (sg_F_r [8088, 30088, 31088] σ) (sg_F_m (L := [8088, 30088, 31088]) hF3 rfl)) w)
        ·
          have w := w.2 h51
          refine wk_b tt_319 2 (pc' := 20) (ls' := [(0, .inr (.inr (.ref 88))), (1, .inl (v1))]) (st' := [.inl (1), .inr (.inr (.ref 88))]) (σ' := σ2) rfl ?_
          refine wk_call tt_319 rfl rfl rfl rfl rfl tt_334 rfl (by decide) (w_want z σ2 (1) _ (by decide) w) (fun u57 σ53 hq55 => ?_)
          obtain ⟨rfl, hF54, w⟩ := hq55
          have w := w hF54
          obtain ⟨c58, w⟩ := w
          refine wk_b tt_319 2 (pc' := 2) (ls' := [(1, .inl ((v1 + 1))), (0, .inr (.inr (.ref 88)))]) (st' := []) (σ' := σ53) rfl ?_
          obtain ⟨m59, hm59, w⟩ := w
          exact wk_ls [(0, .inr (.inr (.ref 88))), (1, .inl ((v1 + 1)))] rfl ⟨rfl, rfl, trivial⟩ (ih8 m59 hm59 ((v1 + 1)) σ53 c58 (sg_F_t (sg_F_t (sg_F_r [8088, 30088, 31088] σ) (sg_F_m (L := [8088, 30088, 31088]) hF3 rfl)) (sg_F_m (L := [8088, 30088, 31088]) hF54 rfl)) w)
  exact wk_ls [(0, .inr (.inr (.ref 88))), (1, .inl (0))] rfl ⟨rfl, rfl, trivial⟩ (lp10 μ5 (0) σ (by decide) (sg_F_r _ _) w11)
-- NestedVectorsModel.readParams
def V_readParams (σ : sg_S) (a1 : Int) (Q : sg_S → Prop) : Prop := p_isSignNow σ (41) ∧ ∀ v4 : Int, v4 = (if ¬ (v_isSignNow σ (41)) = 0 then (0 : Int) else (1 : Int)) → sg_R v4 → (∃ (I10 : Nat → Int → sg_S → Prop) (X12 : sg_S → Prop), (∃ n, I10 n (v4) σ) ∧ (∀ (n20 : Nat) (v7 : Int) (σ8 : sg_S), sg_R v7 → sg_F [106, 107, 108, 109, 8088, 30088, 31088] σ σ8 → I10 n20 v7 σ8 → ((v7 = 0 → X12 σ8) ∧ (¬ v7 = 0 → ((¬ (sg_g σ8 88 29) = 0 → X12 σ8) ∧ ((sg_g σ8 88 29) = 0 → (0 ≤ a1 ∧ a1 < 12) ∧ ((¬ (sg_g σ8 106 (a1)) = 6 → sg_R (6 * a1) ∧ sg_R ((6 * a1) + (sg_g σ8 106 (a1))) ∧ (0 ≤ (sg_g σ8 88 7) ∧ (sg_g σ8 88 7) < 1210) ∧ (0 ≤ ((6 * a1) + (sg_g σ8 106 (a1))) ∧ ((6 * a1) + (sg_g σ8 106 (a1))) < 72) ∧ ∀ σ30, σ30 = (sg_wl σ8 107 (((6 * a1) + (sg_g σ8 106 (a1)))) ((sg_gl σ 92 ((sg_g σ8 88 7))))) → ∀ σ33, σ33 = (sg_w σ30 108 (((6 * a1) + (sg_g σ8 106 (a1)))) ((sg_g σ 91 ((sg_g σ8 88 7))))) → p_isName σ8  ∧ V_want σ33 ((v_isName σ8)) (fun σ38 => sg_F [8088, 30088, 31088] σ33 σ38 → (∃ P45 : sg_S → Prop, ((¬ (sg_g σ38 88 29) = 0 → P45 σ38) ∧ ((sg_g σ38 88 29) = 0 → p_isSignNow σ38 (58) ∧ V_want σ38 ((v_isSignNow σ38 (58))) (fun σ90 => sg_F [8088, 30088, 31088] σ38 σ90 → P45 σ90))) ∧ (∀ (σ46 : sg_S), sg_F [8088, 30088, 31088] σ38 σ46 → P45 σ46 → (∃ P51 : sg_S → Prop, ((¬ (sg_g σ46 88 29) = 0 → P51 σ46) ∧ ((sg_g σ46 88 29) = 0 → V_readType σ46  (fun q75 σ76 => sg_R q75 → sg_F [8088, 30088, 31088] σ46 σ76 → ∀ σ81, σ81 = (sg_w σ76 109 (((6 * a1) + (sg_g σ8 106 (a1)))) (q75)) → sg_R ((sg_g σ8 106 (a1)) + 1) ∧ ∀ σ85, σ85 = (sg_w σ81 106 (a1) (((sg_g σ8 106 (a1)) + 1))) → P51 σ85))) ∧ (∀ (σ52 : sg_S), sg_F [106, 109, 8088, 30088, 31088] σ46 σ52 → P51 σ52 → ((¬ (sg_g σ52 88 29) = 0 → True) ∧ ((sg_g σ52 88 29) = 0 → p_isSignNow σ52 (44) ∧ (((v_isSignNow σ52 (44)) = 0 → True) ∧ (¬ (v_isSignNow σ52 (44)) = 0 → True)))) ∧ ∀ v57 : Int, v57 = (if ¬ (sg_g σ52 88 29) = 0 then (0 : Int) else (if (v_isSignNow σ52 (44)) = 0 then (0 : Int) else (1 : Int))) → sg_R v57 → (∃ P62 : sg_S → Prop, ((v57 = 0 → P62 σ52) ∧ (¬ v57 = 0 → V_want σ52 (1) (fun σ68 => sg_F [8088, 30088, 31088] σ52 σ68 → P62 σ68))) ∧ (∀ (σ63 : sg_S), sg_F [8088, 30088, 31088] σ52 σ63 → P62 σ63 → (∃ m, m < n20 ∧ I10 m (v57) σ63))))))))) ∧ ((sg_g σ8 106 (a1)) = 6 → (0 ≤ (sg_g σ8 88 7) ∧ (sg_g σ8 88 7) < 1210) ∧ V_wrong σ8 (1) ((sg_g σ 91 ((sg_g σ8 88 7)))) (fun σ97 => sg_F [30088, 31088] σ8 σ97 → Q σ97)))))))) ∧ (∀ (σ8 : sg_S), sg_F [106, 107, 108, 109, 8088, 30088, 31088] σ σ8 → X12 σ8 → Q σ8))
set_option maxHeartbeats 4000000 in
set_option maxRecDepth 8000 in
theorem w_readParams (z : Value) (σ : sg_S) (a1 : Int) (Q : sg_S → Prop) (ra1 : sg_R a1) (w : V_readParams σ a1 Q) : wx z 6 318 0 [(0, .inr (.inr (.ref 88))), (1, .inl (a1))] [] σ (fun v σ' => v = none ∧ sg_F [106, 107, 108, 109, 8088, 30088, 31088] σ σ' ∧ Q σ') := by
  unfold V_readParams at w
  refine wk_b tt_318 2 (pc' := 3) (ls' := [(0, .inr (.inr (.ref 88))), (1, .inl (a1))]) (st' := [.inl (41), .inr (.inr (.ref 88))]) (σ' := σ) rfl ?_
  obtain ⟨c1, w⟩ := w
  refine wk_callp tt_318 rfl rfl rfl rfl rfl tt_268 rfl (by decide) (w_isSignNow z σ (41) (by decide) c1) ?_
  have jn3 : ∀ v4 : Int, v4 = (if ¬ (v_isSignNow σ (41)) = 0 then (0 : Int) else (1 : Int)) → sg_R v4 → wx z 6 318 14 [(0, .inr (.inr (.ref 88))), (1, .inl (a1))] [.inl (v4)] σ (fun v σ' => v = none ∧ sg_F [106, 107, 108, 109, 8088, 30088, 31088] σ σ' ∧ Q σ') := by
    intro v4 e6 r5
    have w := w v4 e6 r5
    refine wk_b tt_318 1 (pc' := 15) (ls' := [(2, .inl (v4)), (0, .inr (.inr (.ref 88))), (1, .inl (a1))]) (st' := []) (σ' := σ) rfl ?_
    obtain ⟨I10, X12, ⟨μ11, w17⟩, w18, w19⟩ := w
    have ex21 : ∀ (σ8 : sg_S), sg_F [106, 107, 108, 109, 8088, 30088, 31088] σ σ8 → X12 σ8 → wx z 6 318 180 [] [] σ8 (fun v σ' => v = none ∧ sg_F [106, 107, 108, 109, 8088, 30088, 31088] σ σ' ∧ Q σ') := by
      intro σ8 hF9 w
      have w := w19 σ8 hF9 w
      exact wk_rV tt_318 rfl rfl ⟨rfl, (sg_F_t (sg_F_r [106, 107, 108, 109, 8088, 30088, 31088] σ) (sg_F_m (L := [106, 107, 108, 109, 8088, 30088, 31088]) hF9 rfl)), w⟩
    have lp16 : ∀ (n20 : Nat) (v7 : Int) (σ8 : sg_S), sg_R v7 → sg_F [106, 107, 108, 109, 8088, 30088, 31088] σ σ8 → I10 n20 v7 σ8 → wx z 6 318 15 [(0, .inr (.inr (.ref 88))), (1, .inl (a1)), (2, .inl (v7))] [] σ8 (fun v σ' => v = none ∧ sg_F [106, 107, 108, 109, 8088, 30088, 31088] σ σ' ∧ Q σ') := by
      intro n20
      induction n20 using Nat.strongRecOn with
      | _ n20 ih14 =>
        intro v7 σ8 r13 hF9 w
        have w := w18 n20 v7 σ8 r13 hF9 w
        refine wk_b tt_318 1 (pc' := 16) (ls' := [(0, .inr (.inr (.ref 88))), (1, .inl (a1)), (2, .inl (v7))]) (st' := [.inl (v7)]) (σ' := σ8) rfl ?_
        refine wk_if tt_318 (tgt := 180) rfl rfl r13 (fun (h22 : v7 = 0) => ?_) (fun (h22 : ¬ v7 = 0) => ?_)
        ·
          have w := w.1 h22
          exact wk_ls [] rfl trivial (ex21  σ8  (sg_F_t (sg_F_r [106, 107, 108, 109, 8088, 30088, 31088] σ) (sg_F_m (L := [106, 107, 108, 109, 8088, 30088, 31088]) hF9 rfl)) w)
        ·
          have w := w.2 h22
          refine wk_b tt_318 2 (pc' := 23) (ls' := [(0, .inr (.inr (.ref 88))), (1, .inl (a1)), (2, .inl (v7))]) (st' := [.inl ((sg_g σ8 88 29))]) (σ' := σ8) rfl ?_
          refine wk_if tt_318 (tgt := 180) rfl rfl (sg_Rg _ _ _) (fun (h23 : ¬ (sg_g σ8 88 29) = 0) => ?_) (fun (h23 : (sg_g σ8 88 29) = 0) => ?_)
          ·
            have w := w.1 h23
            exact wk_ls [] rfl trivial (ex21  σ8  (sg_F_t (sg_F_r [106, 107, 108, 109, 8088, 30088, 31088] σ) (sg_F_m (L := [106, 107, 108, 109, 8088, 30088, 31088]) hF9 rfl)) w)
          ·
            have w := w.2 h23
            refine wk_b tt_318 3 (pc' := 31) (ls' := [(0, .inr (.inr (.ref 88))), (1, .inl (a1)), (2, .inl (v7))]) (st' := [.inl (a1), .inr (.inr (.ref 106))]) (σ' := σ8) rfl ?_
            obtain ⟨c24, w⟩ := w
            refine wk_ia tt_318 rfl rfl c24.1 c24.2 ra1 ?_
            refine wk_b tt_318 1 (pc' := 34) (ls' := [(0, .inr (.inr (.ref 88))), (1, .inl (a1)), (2, .inl (v7))]) (st' := [.inl (6), .inl ((sg_g σ8 106 (a1)))]) (σ' := σ8) rfl ?_
            refine wk_if2 tt_318 (tgt := 52) rfl rfl (sg_Rg _ _ _) (by decide) (fun (h25 : ¬ (sg_g σ8 106 (a1)) = 6) => ?_) (fun (h25 : (sg_g σ8 106 (a1)) = 6) => ?_)
            ·
              have w := w.1 h25
              obtain ⟨c26, w⟩ := w
              refine wk_b tt_318 6 (pc' := 61) (ls' := [(0, .inr (.inr (.ref 88))), (1, .inl (a1)), (2, .inl (v7))]) (st' := [.inl (a1), .inr (.inr (.ref 106)), .inl ((6 * a1))]) (σ' := σ8) rfl ?_
              refine wk_ia tt_318 rfl rfl c24.1 c24.2 ra1 ?_
              obtain ⟨c27, w⟩ := w
              refine wk_b tt_318 9 (pc' := 77) (ls' := [(3, .inl (((6 * a1) + (sg_g σ8 106 (a1))))), (0, .inr (.inr (.ref 88))), (1, .inl (a1)), (2, .inl (v7))]) (st' := [.inl ((sg_g σ8 88 7)), .inr (.inr (.ref 92)), .inl (((6 * a1) + (sg_g σ8 106 (a1)))), .inr (.inr (.ref 107))]) (σ' := σ8) rfl ?_
              obtain ⟨c28, w⟩ := w
              refine wk_la tt_318 rfl rfl c28.1 c28.2 (sg_Rg _ _ _) ?_
              rw [show (sg_gl σ8 92 ((sg_g σ8 88 7))) = (sg_gl σ 92 ((sg_g σ8 88 7))) from by rw [sg_F_gal hF9 rfl]]
              obtain ⟨c29, w⟩ := w
              refine wk_lS tt_318 rfl rfl c29.1 c29.2 c27 ?_
              generalize hs31 : (sg_wl σ8 107 (((6 * a1) + (sg_g σ8 106 (a1)))) ((sg_gl σ 92 ((sg_g σ8 88 7))))) = σ30
              have w := w σ30 hs31.symm
              have hF32 : sg_F [107] σ8 σ30 := by rw [← hs31]; exact sg_F_wl (sg_F_r _ _) rfl _
              refine wk_b tt_318 7 (pc' := 92) (ls' := [(3, .inl (((6 * a1) + (sg_g σ8 106 (a1))))), (0, .inr (.inr (.ref 88))), (1, .inl (a1)), (2, .inl (v7))]) (st' := [.inl ((sg_g σ30 88 7)), .inr (.inr (.ref 91)), .inl (((6 * a1) + (sg_g σ8 106 (a1)))), .inr (.inr (.ref 108))]) (σ' := σ30) rfl ?_
              rw [show (sg_g σ30 88 7) = (sg_g σ8 88 7) from by rw [sg_F_ga hF32 rfl]]
              refine wk_ia tt_318 rfl rfl c28.1 c28.2 (sg_Rg _ _ _) ?_
              rw [show (sg_g σ30 91 ((sg_g σ8 88 7))) = (sg_g σ 91 ((sg_g σ8 88 7))) from by rw [sg_F_ga hF32 rfl, sg_F_ga hF9 rfl]]
              refine wk_is tt_318 rfl rfl c29.1 c29.2 c27 ?_
              generalize hs34 : (sg_w σ30 108 (((6 * a1) + (sg_g σ8 106 (a1)))) ((sg_g σ 91 ((sg_g σ8 88 7))))) = σ33
              have w := w σ33 hs34.symm
              have hF35 : sg_F [108] σ30 σ33 := by rw [← hs34]; exact sg_F_w (sg_F_r _ _) rfl _
              refine wk_b tt_318 2 (pc' := 96) (ls' := [(3, .inl (((6 * a1) + (sg_g σ8 106 (a1))))), (0, .inr (.inr (.ref 88))), (1, .inl (a1)), (2, .inl (v7))]) (st' := [.inr (.inr (.ref 88)), .inr (.inr (.ref 88))]) (σ' := σ33) rfl ?_
              obtain ⟨c36, w⟩ := w
              have c36 : p_isName σ33  := by
                rw [pF_isName hF35 rfl rfl rfl, pF_isName hF32 rfl rfl rfl]; exact c36
              refine wk_callp tt_318 rfl rfl rfl rfl rfl tt_264 rfl (by decide) (w_isName z σ33   c36) ?_
              rw [vF_isName hF35 rfl rfl rfl, vF_isName hF32 rfl rfl rfl]
              refine wk_call tt_318 rfl rfl rfl rfl rfl tt_334 rfl (by decide) (w_want z σ33 ((v_isName σ8)) _ (sg_Rz (vz_isName ..)) w) (fun u42 σ38 hq40 => ?_)
              obtain ⟨rfl, hF39, w⟩ := hq40
              have w := w hF39
              refine wk_b tt_318 2 (pc' := 106) (ls' := [(3, .inl (((6 * a1) + (sg_g σ8 106 (a1))))), (0, .inr (.inr (.ref 88))), (1, .inl (a1)), (2, .inl (v7))]) (st' := [.inl ((sg_g σ38 88 29))]) (σ' := σ38) rfl ?_
              obtain ⟨P45, w, w48⟩ := w
              have jn44 : ∀ (σ46 : sg_S), sg_F [8088, 30088, 31088] σ38 σ46 → P45 σ46 → wx z 6 318 119 [(0, .inr (.inr (.ref 88))), (1, .inl (a1)), (3, .inl (((6 * a1) + (sg_g σ8 106 (a1)))))] [] σ46 (fun v σ' => v = none ∧ sg_F [106, 107, 108, 109, 8088, 30088, 31088] σ σ' ∧ Q σ') := by
                intro σ46 hF47 w
                have w := w48 σ46 hF47 w
                refine wk_b tt_318 2 (pc' := 123) (ls' := [(0, .inr (.inr (.ref 88))), (1, .inl (a1)), (3, .inl (((6 * a1) + (sg_g σ8 106 (a1)))))]) (st' := [.inl ((sg_g σ46 88 29))]) (σ' := σ46) rfl ?_
                obtain ⟨P51, w, w54⟩ := w
                have jn50 : ∀ (σ52 : sg_S), sg_F [106, 109, 8088, 30088, 31088] σ46 σ52 → P51 σ52 → wx z 6 318 146 [(0, .inr (.inr (.ref 88))), (1, .inl (a1))] [] σ52 (fun v σ' => v = none ∧ sg_F [106, 107, 108, 109, 8088, 30088, 31088] σ σ' ∧ Q σ') := by
                  intro σ52 hF53 w
                  have w := w54 σ52 hF53 w
                  refine wk_b tt_318 2 (pc' := 150) (ls' := [(0, .inr (.inr (.ref 88))), (1, .inl (a1))]) (st' := [.inl ((sg_g σ52 88 29))]) (σ' := σ52) rfl ?_
                  obtain ⟨wp, w⟩ := w
                  have jn56 : ∀ v57 : Int, v57 = (if ¬ (sg_g σ52 88 29) = 0 then (0 : Int) else (if (v_isSignNow σ52 (44)) = 0 then (0 : Int) else (1 : Int))) → sg_R v57 → wx z 6 318 167 [(0, .inr (.inr (.ref 88))), (1, .inl (a1))] [.inl (v57)] σ52 (fun v σ' => v = none ∧ sg_F [106, 107, 108, 109, 8088, 30088, 31088] σ σ' ∧ Q σ') := by
                    intro v57 e59 r58
                    have w := w v57 e59 r58
                    refine wk_b tt_318 2 (pc' := 169) (ls' := [(2, .inl (v57)), (0, .inr (.inr (.ref 88))), (1, .inl (a1))]) (st' := [.inl (v57)]) (σ' := σ52) rfl ?_
                    obtain ⟨P62, w, w65⟩ := w
                    have jn61 : ∀ (σ63 : sg_S), sg_F [8088, 30088, 31088] σ52 σ63 → P62 σ63 → wx z 6 318 177 [(0, .inr (.inr (.ref 88))), (1, .inl (a1)), (2, .inl (v57))] [] σ63 (fun v σ' => v = none ∧ sg_F [106, 107, 108, 109, 8088, 30088, 31088] σ σ' ∧ Q σ') := by
                      intro σ63 hF64 w
                      have w := w65 σ63 hF64 w
                      refine wk_b tt_318 1 (pc' := 15) (ls' := [(0, .inr (.inr (.ref 88))), (1, .inl (a1)), (2, .inl (v57))]) (st' := []) (σ' := σ63) rfl ?_
                      obtain ⟨m66, hm66, w⟩ := w
                      exact wk_ls [(0, .inr (.inr (.ref 88))), (1, .inl (a1)), (2, .inl (v57))] rfl ⟨rfl, rfl, rfl, trivial⟩ (ih14 m66 hm66 (v57) σ63 r58 (sg_F_t (sg_F_t (sg_F_t (sg_F_t (sg_F_t (sg_F_t (sg_F_t (sg_F_r [106, 107, 108, 109, 8088, 30088, 31088] σ) (sg_F_m (L := [106, 107, 108, 109, 8088, 30088, 31088]) hF9 rfl)) (sg_F_m (L := [106, 107, 108, 109, 8088, 30088, 31088]) hF32 rfl)) (sg_F_m (L := [106, 107, 108, 109, 8088, 30088, 31088]) hF35 rfl)) (sg_F_m (L := [106, 107, 108, 109, 8088, 30088, 31088]) hF39 rfl)) (sg_F_m (L := [106, 107, 108, 109, 8088, 30088, 31088]) hF47 rfl)) (sg_F_m (L := [106, 107, 108, 109, 8088, 30088, 31088]) hF53 rfl)) (sg_F_m (L := [106, 107, 108, 109, 8088, 30088, 31088]) hF64 rfl)) w)
                    refine wk_if tt_318 (tgt := 177) rfl rfl r58 (fun (h60 : v57 = 0) => ?_) (fun (h60 : ¬ v57 = 0) => ?_)
                    ·
                      have w := w.1 h60
                      exact wk_ls [(0, .inr (.inr (.ref 88))), (1, .inl (a1)), (2, .inl (v57))] rfl ⟨rfl, rfl, rfl, trivial⟩ (jn61 σ52 (sg_F_r [8088, 30088, 31088] σ52) w)
                    ·
                      have w := w.2 h60
                      refine wk_b tt_318 2 (pc' := 174) (ls' := [(2, .inl (v57)), (0, .inr (.inr (.ref 88))), (1, .inl (a1))]) (st' := [.inl (1), .inr (.inr (.ref 88))]) (σ' := σ52) rfl ?_
                      refine wk_call tt_318 rfl rfl rfl rfl rfl tt_334 rfl (by decide) (w_want z σ52 (1) _ (by decide) w) (fun u72 σ68 hq70 => ?_)
                      obtain ⟨rfl, hF69, w⟩ := hq70
                      have w := w hF69
                      exact wk_ls [(0, .inr (.inr (.ref 88))), (1, .inl (a1)), (2, .inl (v57))] rfl ⟨rfl, rfl, rfl, trivial⟩ (jn61 σ68 (sg_F_t (sg_F_r [8088, 30088, 31088] σ52) (sg_F_m (L := [8088, 30088, 31088]) hF69 rfl)) w)
                  have w := wp
                  refine wk_if tt_318 (tgt := 166) rfl rfl (sg_Rg _ _ _) (fun (h55 : ¬ (sg_g σ52 88 29) = 0) => ?_) (fun (h55 : (sg_g σ52 88 29) = 0) => ?_)
                  ·
                    have w := w.1 h55
                    refine wk_b tt_318 1 (pc' := 167) (ls' := [(0, .inr (.inr (.ref 88))), (1, .inl (a1))]) (st' := [.inl (0)]) (σ' := σ52) rfl ?_
                    exact wk_ls [(0, .inr (.inr (.ref 88))), (1, .inl (a1))] rfl ⟨rfl, rfl, trivial⟩ (jn56 (0) (by simp only [if_pos h55]) (by decide))
                  ·
                    have w := w.2 h55
                    refine wk_b tt_318 2 (pc' := 156) (ls' := [(0, .inr (.inr (.ref 88))), (1, .inl (a1))]) (st' := [.inl (44), .inr (.inr (.ref 88))]) (σ' := σ52) rfl ?_
                    obtain ⟨c73, w⟩ := w
                    refine wk_callp tt_318 rfl rfl rfl rfl rfl tt_268 rfl (by decide) (w_isSignNow z σ52 (44) (by decide) c73) ?_
                    refine wk_if tt_318 (tgt := 166) rfl rfl (sg_Rz (vz_isSignNow ..)) (fun (h74 : (v_isSignNow σ52 (44)) = 0) => ?_) (fun (h74 : ¬ (v_isSignNow σ52 (44)) = 0) => ?_)
                    ·
                      have w := w.1 h74
                      refine wk_b tt_318 1 (pc' := 167) (ls' := [(0, .inr (.inr (.ref 88))), (1, .inl (a1))]) (st' := [.inl (0)]) (σ' := σ52) rfl ?_
                      exact wk_ls [(0, .inr (.inr (.ref 88))), (1, .inl (a1))] rfl ⟨rfl, rfl, trivial⟩ (jn56 (0) (by simp only [if_neg (show ¬ (¬ (sg_g σ52 88 29) = 0) by omega), if_pos h74]) (by decide))
                    ·
                      have w := w.2 h74
                      refine wk_b tt_318 2 (pc' := 167) (ls' := [(0, .inr (.inr (.ref 88))), (1, .inl (a1))]) (st' := [.inl (1)]) (σ' := σ52) rfl ?_
                      exact wk_ls [(0, .inr (.inr (.ref 88))), (1, .inl (a1))] rfl ⟨rfl, rfl, trivial⟩ (jn56 (1) (by simp only [if_neg (show ¬ (¬ (sg_g σ52 88 29) = 0) by omega), if_neg (show ¬ ((v_isSignNow σ52 (44)) = 0) by omega)]) (by decide))
                refine wk_if tt_318 (tgt := 146) rfl rfl (sg_Rg _ _ _) (fun (h49 : ¬ (sg_g σ46 88 29) = 0) => ?_) (fun (h49 : (sg_g σ46 88 29) = 0) => ?_)
                ·
                  have w := w.1 h49
                  exact wk_ls [(0, .inr (.inr (.ref 88))), (1, .inl (a1))] rfl ⟨rfl, rfl, trivial⟩ (jn50 σ46 (sg_F_r [106, 109, 8088, 30088, 31088] σ46) w)
                ·
                  have w := w.2 h49
                  refine wk_b tt_318 4 (pc' := 132) (ls' := [(0, .inr (.inr (.ref 88))), (1, .inl (a1)), (3, .inl (((6 * a1) + (sg_g σ8 106 (a1)))))]) (st' := [.inr (.inr (.ref 88)), .inl (((6 * a1) + (sg_g σ8 106 (a1)))), .inr (.inr (.ref 109))]) (σ' := σ46) rfl ?_
                  refine wk_call tt_318 rfl rfl rfl rfl rfl tt_319 rfl (by decide) (w_readType z σ46  _  w) (fun u80 σ76 hq78 => ?_)
                  obtain ⟨q75, rfl, r79, hF77, w⟩ := hq78
                  have w := w r79 hF77
                  refine wk_is tt_318 rfl rfl c29.1 c29.2 c27 ?_
                  generalize hs82 : (sg_w σ76 109 (((6 * a1) + (sg_g σ8 106 (a1)))) (q75)) = σ81
                  have w := w σ81 hs82.symm
                  have hF83 : sg_F [109] σ76 σ81 := by rw [← hs82]; exact sg_F_w (sg_F_r _ _) rfl _
                  refine wk_b tt_318 4 (pc' := 142) (ls' := [(0, .inr (.inr (.ref 88))), (1, .inl (a1)), (3, .inl (((6 * a1) + (sg_g σ8 106 (a1)))))]) (st' := [.inl (a1), .inr (.inr (.ref 106)), .inl (a1), .inr (.inr (.ref 106))]) (σ' := σ81) rfl ?_
                  refine wk_ia tt_318 rfl rfl c24.1 c24.2 ra1 ?_
                  rw [show (sg_g σ81 106 (a1)) = (sg_g σ8 106 (a1)) from by rw [sg_F_ga hF83 rfl, sg_F_ga hF77 rfl, sg_F_ga hF47 rfl, sg_F_ga hF39 rfl, sg_F_ga hF35 rfl, sg_F_ga hF32 rfl]]
                  obtain ⟨c84, w⟩ := w
                  refine wk_b tt_318 2 (pc' := 145) (ls' := [(0, .inr (.inr (.ref 88))), (1, .inl (a1)), (3, .inl (((6 * a1) + (sg_g σ8 106 (a1)))))]) (st' := [.inl (((sg_g σ8 106 (a1)) + 1)), .inl (a1), .inr (.inr (.ref 106))]) (σ' := σ81) rfl ?_
                  refine wk_is tt_318 rfl rfl c24.1 c24.2 ra1 ?_
                  generalize hs86 : (sg_w σ81 106 (a1) (((sg_g σ8 106 (a1)) + 1))) = σ85
                  have w := w σ85 hs86.symm
                  have hF87 : sg_F [106] σ81 σ85 := by rw [← hs86]; exact sg_F_w (sg_F_r _ _) rfl _
                  exact wk_ls [(0, .inr (.inr (.ref 88))), (1, .inl (a1))] rfl ⟨rfl, rfl, trivial⟩ (jn50 σ85 (sg_F_t (sg_F_t (sg_F_t (sg_F_r [106, 109, 8088, 30088, 31088] σ46) (sg_F_m (L := [106, 109, 8088, 30088, 31088]) hF77 rfl)) (sg_F_m (L := [106, 109, 8088, 30088, 31088]) hF83 rfl)) (sg_F_m (L := [106, 109, 8088, 30088, 31088]) hF87 rfl)) w)
              refine wk_if tt_318 (tgt := 119) rfl rfl (sg_Rg _ _ _) (fun (h43 : ¬ (sg_g σ38 88 29) = 0) => ?_) (fun (h43 : (sg_g σ38 88 29) = 0) => ?_)
              ·
                have w := w.1 h43
                exact wk_ls [(0, .inr (.inr (.ref 88))), (1, .inl (a1)), (3, .inl (((6 * a1) + (sg_g σ8 106 (a1)))))] rfl ⟨rfl, rfl, rfl, trivial⟩ (jn44 σ38 (sg_F_r [8088, 30088, 31088] σ38) w)
              ·
                have w := w.2 h43
                refine wk_b tt_318 3 (pc' := 113) (ls' := [(3, .inl (((6 * a1) + (sg_g σ8 106 (a1))))), (0, .inr (.inr (.ref 88))), (1, .inl (a1)), (2, .inl (v7))]) (st' := [.inl (58), .inr (.inr (.ref 88)), .inr (.inr (.ref 88))]) (σ' := σ38) rfl ?_
                obtain ⟨c88, w⟩ := w
                refine wk_callp tt_318 rfl rfl rfl rfl rfl tt_268 rfl (by decide) (w_isSignNow z σ38 (58) (by decide) c88) ?_
                refine wk_call tt_318 rfl rfl rfl rfl rfl tt_334 rfl (by decide) (w_want z σ38 ((v_isSignNow σ38 (58))) _ (sg_Rz (vz_isSignNow ..)) w) (fun u94 σ90 hq92 => ?_)
                obtain ⟨rfl, hF91, w⟩ := hq92
                have w := w hF91
                exact wk_ls [(0, .inr (.inr (.ref 88))), (1, .inl (a1)), (3, .inl (((6 * a1) + (sg_g σ8 106 (a1)))))] rfl ⟨rfl, rfl, rfl, trivial⟩ (jn44 σ90 (sg_F_t (sg_F_r [8088, 30088, 31088] σ38) (sg_F_m (L := [8088, 30088, 31088]) hF91 rfl)) w)
            ·
              have w := w.2 h25
              refine wk_b tt_318 6 (pc' := 47) (ls' := [(0, .inr (.inr (.ref 88))), (1, .inl (a1)), (2, .inl (v7))]) (st' := [.inl ((sg_g σ8 88 7)), .inr (.inr (.ref 91)), .inl (1), .inr (.inr (.ref 88))]) (σ' := σ8) rfl ?_
              obtain ⟨c95, w⟩ := w
              refine wk_ia tt_318 rfl rfl c95.1 c95.2 (sg_Rg _ _ _) ?_
              rw [show (sg_g σ8 91 ((sg_g σ8 88 7))) = (sg_g σ 91 ((sg_g σ8 88 7))) from by rw [sg_F_ga hF9 rfl]]
              refine wk_call tt_318 rfl rfl rfl rfl rfl tt_336 rfl (by decide) (w_wrong z σ8 (1) ((sg_g σ 91 ((sg_g σ8 88 7)))) _ (by decide) (sg_Rg _ _ _) w) (fun u101 σ97 hq99 => ?_)
              obtain ⟨rfl, hF98, w⟩ := hq99
              have w := w hF98
              exact wk_rV tt_318 rfl rfl ⟨rfl, (sg_F_t (sg_F_t (sg_F_r [106, 107, 108, 109, 8088, 30088, 31088] σ) (sg_F_m (L := [106, 107, 108, 109, 8088, 30088, 31088]) hF9 rfl)) (sg_F_m (L := [106, 107, 108, 109, 8088, 30088, 31088]) hF98 rfl)), w⟩
    exact wk_ls [(0, .inr (.inr (.ref 88))), (1, .inl (a1)), (2, .inl (v4))] rfl ⟨rfl, rfl, rfl, trivial⟩ (lp16 μ11 (v4) σ r5 (sg_F_r _ _) w17)
  refine wk_if tt_318 (tgt := 13) rfl rfl (sg_Rz (vz_isSignNow ..)) (fun (h2 : ¬ (v_isSignNow σ (41)) = 0) => ?_) (fun (h2 : (v_isSignNow σ (41)) = 0) => ?_)
  ·
    clear w
    refine wk_b tt_318 1 (pc' := 14) (ls' := [(0, .inr (.inr (.ref 88))), (1, .inl (a1))]) (st' := [.inl (0)]) (σ' := σ) rfl ?_
    exact wk_ls [(0, .inr (.inr (.ref 88))), (1, .inl (a1))] rfl ⟨rfl, rfl, trivial⟩ (jn3 (0) (by simp only [if_pos h2]) (by decide))
  ·
    clear w
    refine wk_b tt_318 2 (pc' := 14) (ls' := [(0, .inr (.inr (.ref 88))), (1, .inl (a1))]) (st' := [.inl (1)]) (σ' := σ) rfl ?_
    exact wk_ls [(0, .inr (.inr (.ref 88))), (1, .inl (a1))] rfl ⟨rfl, rfl, trivial⟩ (jn3 (1) (by simp only [if_neg (show ¬ (¬ (v_isSignNow σ (41)) = 0) by omega)]) (by decide))
-- NestedVectorsModel.readWhole
def V_readWhole (σ : sg_S) (Q : Int → sg_S → Prop) : Prop := ∀ σ1, σ1 = (sg_w σ 88 31 (0)) → ∀ σ4, σ4 = (sg_w σ1 88 34 (0)) → ∀ σ7, σ7 = (sg_w σ4 88 36 (0)) → V_pile σ7 (0) (0) (fun σ11 => sg_F [110, 111, 32088] σ7 σ11 → (∃ (I18 : Nat → sg_S → Prop) (X20 : sg_S → Prop), (∃ n, I18 n σ11) ∧ (∀ (n27 : Nat) (σ16 : sg_S), sg_F [93, 94, 95, 96, 97, 98, 99, 100, 110, 111, 112, 8088, 9088, 30088, 31088, 32088, 35088, 37088] σ11 σ16 → I18 n27 σ16 → (((sg_g σ16 88 31) ≤ 0 → X20 σ16) ∧ (0 < (sg_g σ16 88 31) → ((¬ (sg_g σ16 88 29) = 0 → X20 σ16) ∧ ((sg_g σ16 88 29) = 0 → sg_R ((sg_g σ16 88 31) - 1) ∧ ∀ σ39, σ39 = (sg_w σ16 88 31 (((sg_g σ16 88 31) - 1))) → (0 ≤ ((sg_g σ16 88 31) - 1) ∧ ((sg_g σ16 88 31) - 1) < 4000) ∧ V_goOn σ39 ((sg_g σ16 110 (((sg_g σ16 88 31) - 1)))) ((sg_g σ16 111 (((sg_g σ16 88 31) - 1)))) (fun σ44 => sg_F [93, 94, 95, 96, 97, 98, 99, 100, 110, 111, 112, 8088, 9088, 30088, 31088, 32088, 35088, 37088] σ39 σ44 → (∃ m, m < n27 ∧ I18 m σ44))))))) ∧ (∀ (σ16 : sg_S), sg_F [93, 94, 95, 96, 97, 98, 99, 100, 110, 111, 112, 8088, 9088, 30088, 31088, 32088, 35088, 37088] σ11 σ16 → X20 σ16 → ((¬ (sg_g σ16 88 29) = 0 → Q (0) σ16) ∧ ((sg_g σ16 88 29) = 0 → V_popped σ16  (fun q30 σ31 => sg_R q30 → sg_F [35088] σ16 σ31 → Q (q30) σ31))))))
set_option maxHeartbeats 4000000 in
set_option maxRecDepth 8000 in
theorem w_readWhole (z : Value) (σ : sg_S) (Q : Int → sg_S → Prop)  (w : V_readWhole σ  Q) : wx z 8 320 0 [(0, .inr (.inr (.ref 88)))] [] σ (fun v σ' => ∃ q, v = some (.inl q) ∧ sg_R q ∧ sg_F [93, 94, 95, 96, 97, 98, 99, 100, 110, 111, 112, 8088, 9088, 30088, 31088, 32088, 35088, 37088] σ σ' ∧ Q q σ') := by
  unfold V_readWhole at w
  refine wk_b tt_320 3 (pc' := 5) (ls' := [(0, .inr (.inr (.ref 88)))]) (st' := []) (σ' := (sg_w σ 88 31 (0))) rfl ?_
  generalize hs2 : (sg_w σ 88 31 (0)) = σ1
  have w := w σ1 hs2.symm
  have hF3 : sg_F [32088] σ σ1 := by rw [← hs2]; exact sg_F_w (sg_F_r _ _) rfl _
  refine wk_b tt_320 3 (pc' := 10) (ls' := [(0, .inr (.inr (.ref 88)))]) (st' := []) (σ' := (sg_w σ1 88 34 (0))) rfl ?_
  generalize hs5 : (sg_w σ1 88 34 (0)) = σ4
  have w := w σ4 hs5.symm
  have hF6 : sg_F [35088] σ1 σ4 := by rw [← hs5]; exact sg_F_w (sg_F_r _ _) rfl _
  refine wk_b tt_320 3 (pc' := 15) (ls' := [(0, .inr (.inr (.ref 88)))]) (st' := []) (σ' := (sg_w σ4 88 36 (0))) rfl ?_
  generalize hs8 : (sg_w σ4 88 36 (0)) = σ7
  have w := w σ7 hs8.symm
  have hF9 : sg_F [37088] σ4 σ7 := by rw [← hs8]; exact sg_F_w (sg_F_r _ _) rfl _
  refine wk_b tt_320 3 (pc' := 18) (ls' := [(0, .inr (.inr (.ref 88)))]) (st' := [.inl (0), .inl (0), .inr (.inr (.ref 88))]) (σ' := σ7) rfl ?_
  refine wk_call tt_320 rfl rfl rfl rfl rfl tt_305 rfl (by decide) (w_pile z σ7 (0) (0) _ (by decide) (by decide) w) (fun u15 σ11 hq13 => ?_)
  obtain ⟨rfl, hF12, w⟩ := hq13
  have w := w hF12
  obtain ⟨I18, X20, ⟨μ19, w24⟩, w25, w26⟩ := w
  have ex28 : ∀ (σ16 : sg_S), sg_F [93, 94, 95, 96, 97, 98, 99, 100, 110, 111, 112, 8088, 9088, 30088, 31088, 32088, 35088, 37088] σ11 σ16 → X20 σ16 → wx z 8 320 70 [(0, .inr (.inr (.ref 88)))] [] σ16 (fun v σ' => ∃ q, v = some (.inl q) ∧ sg_R q ∧ sg_F [93, 94, 95, 96, 97, 98, 99, 100, 110, 111, 112, 8088, 9088, 30088, 31088, 32088, 35088, 37088] σ σ' ∧ Q q σ') := by
    intro σ16 hF17 w
    have w := w26 σ16 hF17 w
    refine wk_b tt_320 2 (pc' := 74) (ls' := [(0, .inr (.inr (.ref 88)))]) (st' := [.inl ((sg_g σ16 88 29))]) (σ' := σ16) rfl ?_
    refine wk_if tt_320 (tgt := 84) rfl rfl (sg_Rg _ _ _) (fun (h29 : ¬ (sg_g σ16 88 29) = 0) => ?_) (fun (h29 : (sg_g σ16 88 29) = 0) => ?_)
    ·
      have w := w.1 h29
      refine wk_b tt_320 1 (pc' := 85) (ls' := [(0, .inr (.inr (.ref 88)))]) (st' := [.inl (0)]) (σ' := σ16) rfl ?_
      exact wk_rI tt_320 rfl rfl ⟨_, rfl, (by decide), (sg_F_t (sg_F_t (sg_F_t (sg_F_t (sg_F_t (sg_F_r [93, 94, 95, 96, 97, 98, 99, 100, 110, 111, 112, 8088, 9088, 30088, 31088, 32088, 35088, 37088] σ) (sg_F_m (L := [93, 94, 95, 96, 97, 98, 99, 100, 110, 111, 112, 8088, 9088, 30088, 31088, 32088, 35088, 37088]) hF3 rfl)) (sg_F_m (L := [93, 94, 95, 96, 97, 98, 99, 100, 110, 111, 112, 8088, 9088, 30088, 31088, 32088, 35088, 37088]) hF6 rfl)) (sg_F_m (L := [93, 94, 95, 96, 97, 98, 99, 100, 110, 111, 112, 8088, 9088, 30088, 31088, 32088, 35088, 37088]) hF9 rfl)) (sg_F_m (L := [93, 94, 95, 96, 97, 98, 99, 100, 110, 111, 112, 8088, 9088, 30088, 31088, 32088, 35088, 37088]) hF12 rfl)) (sg_F_m (L := [93, 94, 95, 96, 97, 98, 99, 100, 110, 111, 112, 8088, 9088, 30088, 31088, 32088, 35088, 37088]) hF17 rfl)), w⟩
    ·
      have w := w.2 h29
      refine wk_b tt_320 1 (pc' := 78) (ls' := [(0, .inr (.inr (.ref 88)))]) (st' := [.inr (.inr (.ref 88))]) (σ' := σ16) rfl ?_
      refine wk_call tt_320 rfl rfl rfl rfl rfl tt_306 rfl (by decide) (w_popped z σ16  _  w) (fun u35 σ31 hq33 => ?_)
      obtain ⟨q30, rfl, r34, hF32, w⟩ := hq33
      have w := w r34 hF32
      refine wk_b tt_320 1 (pc' := 85) (ls' := [(0, .inr (.inr (.ref 88)))]) (st' := [.inl (q30)]) (σ' := σ31) rfl ?_
      exact wk_rI tt_320 rfl rfl ⟨_, rfl, r34, (sg_F_t (sg_F_t (sg_F_t (sg_F_t (sg_F_t (sg_F_t (sg_F_r [93, 94, 95, 96, 97, 98, 99, 100, 110, 111, 112, 8088, 9088, 30088, 31088, 32088, 35088, 37088] σ) (sg_F_m (L := [93, 94, 95, 96, 97, 98, 99, 100, 110, 111, 112, 8088, 9088, 30088, 31088, 32088, 35088, 37088]) hF3 rfl)) (sg_F_m (L := [93, 94, 95, 96, 97, 98, 99, 100, 110, 111, 112, 8088, 9088, 30088, 31088, 32088, 35088, 37088]) hF6 rfl)) (sg_F_m (L := [93, 94, 95, 96, 97, 98, 99, 100, 110, 111, 112, 8088, 9088, 30088, 31088, 32088, 35088, 37088]) hF9 rfl)) (sg_F_m (L := [93, 94, 95, 96, 97, 98, 99, 100, 110, 111, 112, 8088, 9088, 30088, 31088, 32088, 35088, 37088]) hF12 rfl)) (sg_F_m (L := [93, 94, 95, 96, 97, 98, 99, 100, 110, 111, 112, 8088, 9088, 30088, 31088, 32088, 35088, 37088]) hF17 rfl)) (sg_F_m (L := [93, 94, 95, 96, 97, 98, 99, 100, 110, 111, 112, 8088, 9088, 30088, 31088, 32088, 35088, 37088]) hF32 rfl)), w⟩
  have lp23 : ∀ (n27 : Nat) (σ16 : sg_S), sg_F [93, 94, 95, 96, 97, 98, 99, 100, 110, 111, 112, 8088, 9088, 30088, 31088, 32088, 35088, 37088] σ11 σ16 → I18 n27 σ16 → wx z 8 320 21 [(0, .inr (.inr (.ref 88)))] [] σ16 (fun v σ' => ∃ q, v = some (.inl q) ∧ sg_R q ∧ sg_F [93, 94, 95, 96, 97, 98, 99, 100, 110, 111, 112, 8088, 9088, 30088, 31088, 32088, 35088, 37088] σ σ' ∧ Q q σ') := by
    intro n27
    induction n27 using Nat.strongRecOn with
    | _ n27 ih21 =>
      intro σ16 hF17 w
      have w := w25 n27 σ16 hF17 w
      refine wk_b tt_320 2 (pc' := 25) (ls' := [(0, .inr (.inr (.ref 88)))]) (st' := [.inl ((sg_g σ16 88 31))]) (σ' := σ16) rfl ?_
      refine wk_if tt_320 (tgt := 70) rfl rfl (sg_Rg _ _ _) (fun (h36 : (sg_g σ16 88 31) ≤ 0) => ?_) (fun (h36 : 0 < (sg_g σ16 88 31)) => ?_)
      ·
        have w := w.1 h36
        exact wk_ls [(0, .inr (.inr (.ref 88)))] rfl ⟨rfl, trivial⟩ (ex28  σ16  (sg_F_t (sg_F_r [93, 94, 95, 96, 97, 98, 99, 100, 110, 111, 112, 8088, 9088, 30088, 31088, 32088, 35088, 37088] σ11) (sg_F_m (L := [93, 94, 95, 96, 97, 98, 99, 100, 110, 111, 112, 8088, 9088, 30088, 31088, 32088, 35088, 37088]) hF17 rfl)) w)
      ·
        have w := w.2 h36
        refine wk_b tt_320 2 (pc' := 32) (ls' := [(0, .inr (.inr (.ref 88)))]) (st' := [.inl ((sg_g σ16 88 29))]) (σ' := σ16) rfl ?_
        refine wk_if tt_320 (tgt := 70) rfl rfl (sg_Rg _ _ _) (fun (h37 : ¬ (sg_g σ16 88 29) = 0) => ?_) (fun (h37 : (sg_g σ16 88 29) = 0) => ?_)
        ·
          have w := w.1 h37
          exact wk_ls [(0, .inr (.inr (.ref 88)))] rfl ⟨rfl, trivial⟩ (ex28  σ16  (sg_F_t (sg_F_r [93, 94, 95, 96, 97, 98, 99, 100, 110, 111, 112, 8088, 9088, 30088, 31088, 32088, 35088, 37088] σ11) (sg_F_m (L := [93, 94, 95, 96, 97, 98, 99, 100, 110, 111, 112, 8088, 9088, 30088, 31088, 32088, 35088, 37088]) hF17 rfl)) w)
        ·
          have w := w.2 h37
          obtain ⟨c38, w⟩ := w
          refine wk_b tt_320 6 (pc' := 45) (ls' := [(0, .inr (.inr (.ref 88)))]) (st' := []) (σ' := (sg_w σ16 88 31 (((sg_g σ16 88 31) - 1)))) rfl ?_
          generalize hs40 : (sg_w σ16 88 31 (((sg_g σ16 88 31) - 1))) = σ39
          have w := w σ39 hs40.symm
          have hF41 : sg_F [32088] σ16 σ39 := by rw [← hs40]; exact sg_F_w (sg_F_r _ _) rfl _
          refine wk_b tt_320 5 (pc' := 54) (ls' := [(0, .inr (.inr (.ref 88)))]) (st' := [.inl ((sg_g σ39 88 31)), .inr (.inr (.ref 110)), .inr (.inr (.ref 88))]) (σ' := σ39) rfl ?_
          rw [show (sg_g σ39 88 31) = ((sg_g σ16 88 31) - 1) from by rw [(show sg_g σ39 88 31 = ((sg_g σ16 88 31) - 1) from by rw [← hs40]; exact sg_gw_e _ _ _ _ c38)]]
          obtain ⟨c42, w⟩ := w
          refine wk_ia tt_320 rfl rfl c42.1 c42.2 c38 ?_
          rw [show (sg_g σ39 110 (((sg_g σ16 88 31) - 1))) = (sg_g σ16 110 (((sg_g σ16 88 31) - 1))) from by rw [sg_F_ga hF41 rfl]]
          refine wk_b tt_320 4 (pc' := 63) (ls' := [(0, .inr (.inr (.ref 88)))]) (st' := [.inl ((sg_g σ39 88 31)), .inr (.inr (.ref 111)), .inl ((sg_g σ16 110 (((sg_g σ16 88 31) - 1)))), .inr (.inr (.ref 88))]) (σ' := σ39) rfl ?_
          rw [show (sg_g σ39 88 31) = ((sg_g σ16 88 31) - 1) from by rw [(show sg_g σ39 88 31 = ((sg_g σ16 88 31) - 1) from by rw [← hs40]; exact sg_gw_e _ _ _ _ c38)]]
          refine wk_ia tt_320 rfl rfl c42.1 c42.2 c38 ?_
          rw [show (sg_g σ39 111 (((sg_g σ16 88 31) - 1))) = (sg_g σ16 111 (((sg_g σ16 88 31) - 1))) from by rw [sg_F_ga hF41 rfl]]
          refine wk_call tt_320 rfl rfl rfl rfl rfl tt_253 rfl (by decide) (w_goOn z σ39 ((sg_g σ16 110 (((sg_g σ16 88 31) - 1)))) ((sg_g σ16 111 (((sg_g σ16 88 31) - 1)))) _ (sg_Rg _ _ _) (sg_Rg _ _ _) w) (fun u48 σ44 hq46 => ?_)
          obtain ⟨rfl, hF45, w⟩ := hq46
          have w := w hF45
          refine wk_b tt_320 1 (pc' := 21) (ls' := [(0, .inr (.inr (.ref 88)))]) (st' := []) (σ' := σ44) rfl ?_
          obtain ⟨m49, hm49, w⟩ := w
          exact wk_ls [(0, .inr (.inr (.ref 88)))] rfl ⟨rfl, trivial⟩ (ih21 m49 hm49  σ44  (sg_F_t (sg_F_t (sg_F_t (sg_F_r [93, 94, 95, 96, 97, 98, 99, 100, 110, 111, 112, 8088, 9088, 30088, 31088, 32088, 35088, 37088] σ11) (sg_F_m (L := [93, 94, 95, 96, 97, 98, 99, 100, 110, 111, 112, 8088, 9088, 30088, 31088, 32088, 35088, 37088]) hF17 rfl)) (sg_F_m (L := [93, 94, 95, 96, 97, 98, 99, 100, 110, 111, 112, 8088, 9088, 30088, 31088, 32088, 35088, 37088]) hF41 rfl)) (sg_F_m (L := [93, 94, 95, 96, 97, 98, 99, 100, 110, 111, 112, 8088, 9088, 30088, 31088, 32088, 35088, 37088]) hF45 rfl)) w)
  exact wk_ls [(0, .inr (.inr (.ref 88)))] rfl ⟨rfl, trivial⟩ (lp23 μ19  σ11  (sg_F_r _ _) w24)
/-! Conditions of the reference's methods, by program (40). -/
-- NestedVectorsModel.readDef
def V_readDef (σ : sg_S) (Q : sg_S → Prop) : Prop := ((¬ (sg_g σ 88 19) = 12 → V_want σ (1) (fun σ3 => sg_F [8088, 30088, 31088] σ σ3 → (0 ≤ (sg_g σ 88 19) ∧ (sg_g σ 88 19) < 12) ∧ ∀ σ9, σ9 = (sg_w σ3 106 ((sg_g σ 88 19)) (0)) → (0 ≤ (sg_g σ3 88 7) ∧ (sg_g σ3 88 7) < 1210) ∧ ∀ σ13, σ13 = (sg_wl σ9 103 ((sg_g σ 88 19)) ((sg_gl σ 92 ((sg_g σ3 88 7))))) → ∀ σ16, σ16 = (sg_w σ13 104 ((sg_g σ 88 19)) ((sg_g σ 91 ((sg_g σ3 88 7))))) → p_isName σ3  ∧ V_want σ16 ((v_isName σ3)) (fun σ21 => sg_F [8088, 30088, 31088] σ16 σ21 → (∃ P28 : sg_S → Prop, ((¬ (sg_g σ21 88 29) = 0 → P28 σ21) ∧ ((sg_g σ21 88 29) = 0 → p_isSignNow σ21 (40) ∧ V_want σ21 ((v_isSignNow σ21 (40))) (fun σ103 => sg_F [8088, 30088, 31088] σ21 σ103 → P28 σ103))) ∧ (∀ (σ29 : sg_S), sg_F [8088, 30088, 31088] σ21 σ29 → P28 σ29 → (∃ P34 : sg_S → Prop, ((¬ (sg_g σ29 88 29) = 0 → P34 σ29) ∧ ((sg_g σ29 88 29) = 0 → V_readParams σ29 ((sg_g σ 88 19)) (fun σ96 => sg_F [106, 107, 108, 109, 8088, 30088, 31088] σ29 σ96 → P34 σ96))) ∧ (∀ (σ35 : sg_S), sg_F [106, 107, 108, 109, 8088, 30088, 31088] σ29 σ35 → P34 σ35 → (∃ P40 : sg_S → Prop, ((¬ (sg_g σ35 88 29) = 0 → P40 σ35) ∧ ((sg_g σ35 88 29) = 0 → p_isSignNow σ35 (41) ∧ V_want σ35 ((v_isSignNow σ35 (41))) (fun σ90 => sg_F [8088, 30088, 31088] σ35 σ90 → P40 σ90))) ∧ (∀ (σ41 : sg_S), sg_F [8088, 30088, 31088] σ35 σ41 → P40 σ41 → (∃ P46 : sg_S → Prop, ((¬ (sg_g σ41 88 29) = 0 → P46 σ41) ∧ ((sg_g σ41 88 29) = 0 → p_isSignNow σ41 (61) ∧ V_want σ41 ((v_isSignNow σ41 (61))) (fun σ83 => sg_F [8088, 30088, 31088] σ41 σ83 → P46 σ83))) ∧ (∀ (σ47 : sg_S), sg_F [8088, 30088, 31088] σ41 σ47 → P46 σ47 → (∃ P52 : sg_S → Prop, ((¬ (sg_g σ47 88 29) = 0 → P52 σ47) ∧ ((sg_g σ47 88 29) = 0 → V_readWhole σ47  (fun q72 σ73 => sg_R q72 → sg_F [93, 94, 95, 96, 97, 98, 99, 100, 110, 111, 112, 8088, 9088, 30088, 31088, 32088, 35088, 37088] σ47 σ73 → ∀ σ78, σ78 = (sg_w σ73 105 ((sg_g σ 88 19)) (q72)) → P52 σ78))) ∧ (∀ (σ53 : sg_S), sg_F [93, 94, 95, 96, 97, 98, 99, 100, 105, 110, 111, 112, 8088, 9088, 30088, 31088, 32088, 35088, 37088] σ47 σ53 → P52 σ53 → ((¬ (sg_g σ53 88 29) = 0 → sg_R ((sg_g σ 88 19) + 1) ∧ ∀ σ58, σ58 = (sg_w σ53 88 19 (((sg_g σ 88 19) + 1))) → Q σ58) ∧ ((sg_g σ53 88 29) = 0 → p_isSignNow σ53 (59) ∧ V_want σ53 ((v_isSignNow σ53 (59))) (fun σ63 => sg_F [8088, 30088, 31088] σ53 σ63 → sg_R ((sg_g σ 88 19) + 1) ∧ ∀ σ69, σ69 = (sg_w σ63 88 19 (((sg_g σ 88 19) + 1))) → Q σ69)))))))))))))))) ∧ ((sg_g σ 88 19) = 12 → (0 ≤ (sg_g σ 88 7) ∧ (sg_g σ 88 7) < 1210) ∧ V_wrong σ (1) ((sg_g σ 91 ((sg_g σ 88 7)))) (fun σ110 => sg_F [30088, 31088] σ σ110 → Q σ110)))
set_option maxHeartbeats 4000000 in
set_option maxRecDepth 8000 in
theorem w_readDef (z : Value) (σ : sg_S) (Q : sg_S → Prop)  (w : V_readDef σ  Q) : wx z 9 313 0 [(0, .inr (.inr (.ref 88)))] [] σ (fun v σ' => v = none ∧ sg_F [93, 94, 95, 96, 97, 98, 99, 100, 103, 104, 105, 106, 107, 108, 109, 110, 111, 112, 8088, 9088, 20088, 30088, 31088, 32088, 35088, 37088] σ σ' ∧ Q σ') := by
  unfold V_readDef at w
  refine wk_b tt_313 3 (pc' := 6) (ls' := [(0, .inr (.inr (.ref 88)))]) (st' := [.inl (12), .inl ((sg_g σ 88 19))]) (σ' := σ) rfl ?_
  refine wk_if2 tt_313 (tgt := 24) rfl rfl (sg_Rg _ _ _) (by decide) (fun (h1 : ¬ (sg_g σ 88 19) = 12) => ?_) (fun (h1 : (sg_g σ 88 19) = 12) => ?_)
  ·
    have w := w.1 h1
    refine wk_b tt_313 2 (pc' := 26) (ls' := [(0, .inr (.inr (.ref 88)))]) (st' := [.inl (1), .inr (.inr (.ref 88))]) (σ' := σ) rfl ?_
    refine wk_call tt_313 rfl rfl rfl rfl rfl tt_334 rfl (by decide) (w_want z σ (1) _ (by decide) w) (fun u7 σ3 hq5 => ?_)
    obtain ⟨rfl, hF4, w⟩ := hq5
    have w := w hF4
    refine wk_b tt_313 7 (pc' := 40) (ls' := [(1, .inl ((sg_g σ3 88 19))), (0, .inr (.inr (.ref 88)))]) (st' := [.inl (0), .inl ((sg_g σ3 88 19)), .inr (.inr (.ref 106))]) (σ' := σ3) rfl ?_
    rw [show (sg_g σ3 88 19) = (sg_g σ 88 19) from by rw [sg_F_g hF4 rfl]]
    obtain ⟨c8, w⟩ := w
    refine wk_is tt_313 rfl rfl c8.1 c8.2 (sg_Rg _ _ _) ?_
    generalize hs10 : (sg_w σ3 106 ((sg_g σ 88 19)) (0)) = σ9
    have w := w σ9 hs10.symm
    have hF11 : sg_F [106] σ3 σ9 := by rw [← hs10]; exact sg_F_w (sg_F_r _ _) rfl _
    refine wk_b tt_313 7 (pc' := 54) (ls' := [(1, .inl ((sg_g σ 88 19))), (0, .inr (.inr (.ref 88)))]) (st' := [.inl ((sg_g σ9 88 7)), .inr (.inr (.ref 92)), .inl ((sg_g σ 88 19)), .inr (.inr (.ref 103))]) (σ' := σ9) rfl ?_
    rw [show (sg_g σ9 88 7) = (sg_g σ3 88 7) from by rw [sg_F_ga hF11 rfl]]
    obtain ⟨c12, w⟩ := w
    refine wk_la tt_313 rfl rfl c12.1 c12.2 (sg_Rg _ _ _) ?_
    rw [show (sg_gl σ9 92 ((sg_g σ3 88 7))) = (sg_gl σ 92 ((sg_g σ3 88 7))) from by rw [sg_F_gal hF11 rfl, sg_F_gal hF4 rfl]]
    refine wk_lS tt_313 rfl rfl c8.1 c8.2 (sg_Rg _ _ _) ?_
    generalize hs14 : (sg_wl σ9 103 ((sg_g σ 88 19)) ((sg_gl σ 92 ((sg_g σ3 88 7))))) = σ13
    have w := w σ13 hs14.symm
    have hF15 : sg_F [103] σ9 σ13 := by rw [← hs14]; exact sg_F_wl (sg_F_r _ _) rfl _
    refine wk_b tt_313 7 (pc' := 69) (ls' := [(1, .inl ((sg_g σ 88 19))), (0, .inr (.inr (.ref 88)))]) (st' := [.inl ((sg_g σ13 88 7)), .inr (.inr (.ref 91)), .inl ((sg_g σ 88 19)), .inr (.inr (.ref 104))]) (σ' := σ13) rfl ?_
    rw [show (sg_g σ13 88 7) = (sg_g σ3 88 7) from by rw [sg_F_ga hF15 rfl, sg_F_ga hF11 rfl]]
    refine wk_ia tt_313 rfl rfl c12.1 c12.2 (sg_Rg _ _ _) ?_
    rw [show (sg_g σ13 91 ((sg_g σ3 88 7))) = (sg_g σ 91 ((sg_g σ3 88 7))) from by rw [sg_F_ga hF15 rfl, sg_F_ga hF11 rfl, sg_F_ga hF4 rfl]]
    refine wk_is tt_313 rfl rfl c8.1 c8.2 (sg_Rg _ _ _) ?_
    generalize hs17 : (sg_w σ13 104 ((sg_g σ 88 19)) ((sg_g σ 91 ((sg_g σ3 88 7))))) = σ16
    have w := w σ16 hs17.symm
    have hF18 : sg_F [104] σ13 σ16 := by rw [← hs17]; exact sg_F_w (sg_F_r _ _) rfl _
    refine wk_b tt_313 2 (pc' := 73) (ls' := [(1, .inl ((sg_g σ 88 19))), (0, .inr (.inr (.ref 88)))]) (st' := [.inr (.inr (.ref 88)), .inr (.inr (.ref 88))]) (σ' := σ16) rfl ?_
    obtain ⟨c19, w⟩ := w
    have c19 : p_isName σ16  := by
      rw [pF_isName hF18 rfl rfl rfl, pF_isName hF15 rfl rfl rfl, pF_isName hF11 rfl rfl rfl]; exact c19
    refine wk_callp tt_313 rfl rfl rfl rfl rfl tt_264 rfl (by decide) (w_isName z σ16   c19) ?_
    rw [vF_isName hF18 rfl rfl rfl, vF_isName hF15 rfl rfl rfl, vF_isName hF11 rfl rfl rfl]
    refine wk_call tt_313 rfl rfl rfl rfl rfl tt_334 rfl (by decide) (w_want z σ16 ((v_isName σ3)) _ (sg_Rz (vz_isName ..)) w) (fun u25 σ21 hq23 => ?_)
    obtain ⟨rfl, hF22, w⟩ := hq23
    have w := w hF22
    refine wk_b tt_313 2 (pc' := 83) (ls' := [(1, .inl ((sg_g σ 88 19))), (0, .inr (.inr (.ref 88)))]) (st' := [.inl ((sg_g σ21 88 29))]) (σ' := σ21) rfl ?_
    obtain ⟨P28, w, w31⟩ := w
    have jn27 : ∀ (σ29 : sg_S), sg_F [8088, 30088, 31088] σ21 σ29 → P28 σ29 → wx z 9 313 96 [(0, .inr (.inr (.ref 88))), (1, .inl ((sg_g σ 88 19)))] [] σ29 (fun v σ' => v = none ∧ sg_F [93, 94, 95, 96, 97, 98, 99, 100, 103, 104, 105, 106, 107, 108, 109, 110, 111, 112, 8088, 9088, 20088, 30088, 31088, 32088, 35088, 37088] σ σ' ∧ Q σ') := by
      intro σ29 hF30 w
      have w := w31 σ29 hF30 w
      refine wk_b tt_313 2 (pc' := 100) (ls' := [(0, .inr (.inr (.ref 88))), (1, .inl ((sg_g σ 88 19)))]) (st' := [.inl ((sg_g σ29 88 29))]) (σ' := σ29) rfl ?_
      obtain ⟨P34, w, w37⟩ := w
      have jn33 : ∀ (σ35 : sg_S), sg_F [106, 107, 108, 109, 8088, 30088, 31088] σ29 σ35 → P34 σ35 → wx z 9 313 108 [(0, .inr (.inr (.ref 88))), (1, .inl ((sg_g σ 88 19)))] [] σ35 (fun v σ' => v = none ∧ sg_F [93, 94, 95, 96, 97, 98, 99, 100, 103, 104, 105, 106, 107, 108, 109, 110, 111, 112, 8088, 9088, 20088, 30088, 31088, 32088, 35088, 37088] σ σ' ∧ Q σ') := by
        intro σ35 hF36 w
        have w := w37 σ35 hF36 w
        refine wk_b tt_313 2 (pc' := 112) (ls' := [(0, .inr (.inr (.ref 88))), (1, .inl ((sg_g σ 88 19)))]) (st' := [.inl ((sg_g σ35 88 29))]) (σ' := σ35) rfl ?_
        obtain ⟨P40, w, w43⟩ := w
        have jn39 : ∀ (σ41 : sg_S), sg_F [8088, 30088, 31088] σ35 σ41 → P40 σ41 → wx z 9 313 125 [(0, .inr (.inr (.ref 88))), (1, .inl ((sg_g σ 88 19)))] [] σ41 (fun v σ' => v = none ∧ sg_F [93, 94, 95, 96, 97, 98, 99, 100, 103, 104, 105, 106, 107, 108, 109, 110, 111, 112, 8088, 9088, 20088, 30088, 31088, 32088, 35088, 37088] σ σ' ∧ Q σ') := by
          intro σ41 hF42 w
          have w := w43 σ41 hF42 w
          refine wk_b tt_313 2 (pc' := 129) (ls' := [(0, .inr (.inr (.ref 88))), (1, .inl ((sg_g σ 88 19)))]) (st' := [.inl ((sg_g σ41 88 29))]) (σ' := σ41) rfl ?_
          obtain ⟨P46, w, w49⟩ := w
          have jn45 : ∀ (σ47 : sg_S), sg_F [8088, 30088, 31088] σ41 σ47 → P46 σ47 → wx z 9 313 142 [(0, .inr (.inr (.ref 88))), (1, .inl ((sg_g σ 88 19)))] [] σ47 (fun v σ' => v = none ∧ sg_F [93, 94, 95, 96, 97, 98, 99, 100, 103, 104, 105, 106, 107, 108, 109, 110, 111, 112, 8088, 9088, 20088, 30088, 31088, 32088, 35088, 37088] σ σ' ∧ Q σ') := by
            intro σ47 hF48 w
            have w := w49 σ47 hF48 w
            refine wk_b tt_313 2 (pc' := 146) (ls' := [(0, .inr (.inr (.ref 88))), (1, .inl ((sg_g σ 88 19)))]) (st' := [.inl ((sg_g σ47 88 29))]) (σ' := σ47) rfl ?_
            obtain ⟨P52, w, w55⟩ := w
            have jn51 : ∀ (σ53 : sg_S), sg_F [93, 94, 95, 96, 97, 98, 99, 100, 105, 110, 111, 112, 8088, 9088, 30088, 31088, 32088, 35088, 37088] σ47 σ53 → P52 σ53 → wx z 9 313 159 [(0, .inr (.inr (.ref 88)))] [] σ53 (fun v σ' => v = none ∧ sg_F [93, 94, 95, 96, 97, 98, 99, 100, 103, 104, 105, 106, 107, 108, 109, 110, 111, 112, 8088, 9088, 20088, 30088, 31088, 32088, 35088, 37088] σ σ' ∧ Q σ') := by
              intro σ53 hF54 w
              have w := w55 σ53 hF54 w
              refine wk_b tt_313 2 (pc' := 163) (ls' := [(0, .inr (.inr (.ref 88)))]) (st' := [.inl ((sg_g σ53 88 29))]) (σ' := σ53) rfl ?_
              refine wk_if tt_313 (tgt := 176) rfl rfl (sg_Rg _ _ _) (fun (h56 : ¬ (sg_g σ53 88 29) = 0) => ?_) (fun (h56 : (sg_g σ53 88 29) = 0) => ?_)
              ·
                have w := w.1 h56
                obtain ⟨c57, w⟩ := w
                refine wk_b tt_313 6 (pc' := 186) (ls' := [(0, .inr (.inr (.ref 88)))]) (st' := []) (σ' := (sg_w σ53 88 19 (((sg_g σ53 88 19) + 1)))) rfl ?_
                rw [show (sg_g σ53 88 19) = (sg_g σ 88 19) from by rw [sg_F_g hF54 rfl, sg_F_g hF48 rfl, sg_F_g hF42 rfl, sg_F_g hF36 rfl, sg_F_g hF30 rfl, sg_F_g hF22 rfl, sg_F_ga hF18 rfl, sg_F_ga hF15 rfl, sg_F_ga hF11 rfl, sg_F_g hF4 rfl]]
                generalize hs59 : (sg_w σ53 88 19 (((sg_g σ 88 19) + 1))) = σ58
                have w := w σ58 hs59.symm
                have hF60 : sg_F [20088] σ53 σ58 := by rw [← hs59]; exact sg_F_w (sg_F_r _ _) rfl _
                exact wk_rV tt_313 rfl rfl ⟨rfl, (sg_F_t (sg_F_t (sg_F_t (sg_F_t (sg_F_t (sg_F_t (sg_F_t (sg_F_t (sg_F_t (sg_F_t (sg_F_t (sg_F_r [93, 94, 95, 96, 97, 98, 99, 100, 103, 104, 105, 106, 107, 108, 109, 110, 111, 112, 8088, 9088, 20088, 30088, 31088, 32088, 35088, 37088] σ) (sg_F_m (L := [93, 94, 95, 96, 97, 98, 99, 100, 103, 104, 105, 106, 107, 108, 109, 110, 111, 112, 8088, 9088, 20088, 30088, 31088, 32088, 35088, 37088]) hF4 rfl)) (sg_F_m (L := [93, 94, 95, 96, 97, 98, 99, 100, 103, 104, 105, 106, 107, 108, 109, 110, 111, 112, 8088, 9088, 20088, 30088, 31088, 32088, 35088, 37088]) hF11 rfl)) (sg_F_m (L := [93, 94, 95, 96, 97, 98, 99, 100, 103, 104, 105, 106, 107, 108, 109, 110, 111, 112, 8088, 9088, 20088, 30088, 31088, 32088, 35088, 37088]) hF15 rfl)) (sg_F_m (L := [93, 94, 95, 96, 97, 98, 99, 100, 103, 104, 105, 106, 107, 108, 109, 110, 111, 112, 8088, 9088, 20088, 30088, 31088, 32088, 35088, 37088]) hF18 rfl)) (sg_F_m (L := [93, 94, 95, 96, 97, 98, 99, 100, 103, 104, 105, 106, 107, 108, 109, 110, 111, 112, 8088, 9088, 20088, 30088, 31088, 32088, 35088, 37088]) hF22 rfl)) (sg_F_m (L := [93, 94, 95, 96, 97, 98, 99, 100, 103, 104, 105, 106, 107, 108, 109, 110, 111, 112, 8088, 9088, 20088, 30088, 31088, 32088, 35088, 37088]) hF30 rfl)) (sg_F_m (L := [93, 94, 95, 96, 97, 98, 99, 100, 103, 104, 105, 106, 107, 108, 109, 110, 111, 112, 8088, 9088, 20088, 30088, 31088, 32088, 35088, 37088]) hF36 rfl)) (sg_F_m (L := [93, 94, 95, 96, 97, 98, 99, 100, 103, 104, 105, 106, 107, 108, 109, 110, 111, 112, 8088, 9088, 20088, 30088, 31088, 32088, 35088, 37088]) hF42 rfl)) (sg_F_m (L := [93, 94, 95, 96, 97, 98, 99, 100, 103, 104, 105, 106, 107, 108, 109, 110, 111, 112, 8088, 9088, 20088, 30088, 31088, 32088, 35088, 37088]) hF48 rfl)) (sg_F_m (L := [93, 94, 95, 96, 97, 98, 99, 100, 103, 104, 105, 106, 107, 108, 109, 110, 111, 112, 8088, 9088, 20088, 30088, 31088, 32088, 35088, 37088]) hF54 rfl)) (sg_F_m (L := [93, 94, 95, 96, 97, 98, 99, 100, 103, 104, 105, 106, 107, 108, 109, 110, 111, 112, 8088, 9088, 20088, 30088, 31088, 32088, 35088, 37088]) hF60 rfl)), w⟩
              ·
                have w := w.2 h56
                refine wk_b tt_313 3 (pc' := 170) (ls' := [(0, .inr (.inr (.ref 88)))]) (st' := [.inl (59), .inr (.inr (.ref 88)), .inr (.inr (.ref 88))]) (σ' := σ53) rfl ?_
                obtain ⟨c61, w⟩ := w
                refine wk_callp tt_313 rfl rfl rfl rfl rfl tt_268 rfl (by decide) (w_isSignNow z σ53 (59) (by decide) c61) ?_
                refine wk_call tt_313 rfl rfl rfl rfl rfl tt_334 rfl (by decide) (w_want z σ53 ((v_isSignNow σ53 (59))) _ (sg_Rz (vz_isSignNow ..)) w) (fun u67 σ63 hq65 => ?_)
                obtain ⟨rfl, hF64, w⟩ := hq65
                have w := w hF64
                obtain ⟨c68, w⟩ := w
                refine wk_b tt_313 6 (pc' := 186) (ls' := [(0, .inr (.inr (.ref 88)))]) (st' := []) (σ' := (sg_w σ63 88 19 (((sg_g σ63 88 19) + 1)))) rfl ?_
                rw [show (sg_g σ63 88 19) = (sg_g σ 88 19) from by rw [sg_F_g hF64 rfl, sg_F_g hF54 rfl, sg_F_g hF48 rfl, sg_F_g hF42 rfl, sg_F_g hF36 rfl, sg_F_g hF30 rfl, sg_F_g hF22 rfl, sg_F_ga hF18 rfl, sg_F_ga hF15 rfl, sg_F_ga hF11 rfl, sg_F_g hF4 rfl]]
                generalize hs70 : (sg_w σ63 88 19 (((sg_g σ 88 19) + 1))) = σ69
                have w := w σ69 hs70.symm
                have hF71 : sg_F [20088] σ63 σ69 := by rw [← hs70]; exact sg_F_w (sg_F_r _ _) rfl _
                exact wk_rV tt_313 rfl rfl ⟨rfl, (sg_F_t (sg_F_t (sg_F_t (sg_F_t (sg_F_t (sg_F_t (sg_F_t (sg_F_t (sg_F_t (sg_F_t (sg_F_t (sg_F_t (sg_F_r [93, 94, 95, 96, 97, 98, 99, 100, 103, 104, 105, 106, 107, 108, 109, 110, 111, 112, 8088, 9088, 20088, 30088, 31088, 32088, 35088, 37088] σ) (sg_F_m (L := [93, 94, 95, 96, 97, 98, 99, 100, 103, 104, 105, 106, 107, 108, 109, 110, 111, 112, 8088, 9088, 20088, 30088, 31088, 32088, 35088, 37088]) hF4 rfl)) (sg_F_m (L := [93, 94, 95, 96, 97, 98, 99, 100, 103, 104, 105, 106, 107, 108, 109, 110, 111, 112, 8088, 9088, 20088, 30088, 31088, 32088, 35088, 37088]) hF11 rfl)) (sg_F_m (L := [93, 94, 95, 96, 97, 98, 99, 100, 103, 104, 105, 106, 107, 108, 109, 110, 111, 112, 8088, 9088, 20088, 30088, 31088, 32088, 35088, 37088]) hF15 rfl)) (sg_F_m (L := [93, 94, 95, 96, 97, 98, 99, 100, 103, 104, 105, 106, 107, 108, 109, 110, 111, 112, 8088, 9088, 20088, 30088, 31088, 32088, 35088, 37088]) hF18 rfl)) (sg_F_m (L := [93, 94, 95, 96, 97, 98, 99, 100, 103, 104, 105, 106, 107, 108, 109, 110, 111, 112, 8088, 9088, 20088, 30088, 31088, 32088, 35088, 37088]) hF22 rfl)) (sg_F_m (L := [93, 94, 95, 96, 97, 98, 99, 100, 103, 104, 105, 106, 107, 108, 109, 110, 111, 112, 8088, 9088, 20088, 30088, 31088, 32088, 35088, 37088]) hF30 rfl)) (sg_F_m (L := [93, 94, 95, 96, 97, 98, 99, 100, 103, 104, 105, 106, 107, 108, 109, 110, 111, 112, 8088, 9088, 20088, 30088, 31088, 32088, 35088, 37088]) hF36 rfl)) (sg_F_m (L := [93, 94, 95, 96, 97, 98, 99, 100, 103, 104, 105, 106, 107, 108, 109, 110, 111, 112, 8088, 9088, 20088, 30088, 31088, 32088, 35088, 37088]) hF42 rfl)) (sg_F_m (L := [93, 94, 95, 96, 97, 98, 99, 100, 103, 104, 105, 106, 107, 108, 109, 110, 111, 112, 8088, 9088, 20088, 30088, 31088, 32088, 35088, 37088]) hF48 rfl)) (sg_F_m (L := [93, 94, 95, 96, 97, 98, 99, 100, 103, 104, 105, 106, 107, 108, 109, 110, 111, 112, 8088, 9088, 20088, 30088, 31088, 32088, 35088, 37088]) hF54 rfl)) (sg_F_m (L := [93, 94, 95, 96, 97, 98, 99, 100, 103, 104, 105, 106, 107, 108, 109, 110, 111, 112, 8088, 9088, 20088, 30088, 31088, 32088, 35088, 37088]) hF64 rfl)) (sg_F_m (L := [93, 94, 95, 96, 97, 98, 99, 100, 103, 104, 105, 106, 107, 108, 109, 110, 111, 112, 8088, 9088, 20088, 30088, 31088, 32088, 35088, 37088]) hF71 rfl)), w⟩
            refine wk_if tt_313 (tgt := 159) rfl rfl (sg_Rg _ _ _) (fun (h50 : ¬ (sg_g σ47 88 29) = 0) => ?_) (fun (h50 : (sg_g σ47 88 29) = 0) => ?_)
            ·
              have w := w.1 h50
              exact wk_ls [(0, .inr (.inr (.ref 88)))] rfl ⟨rfl, trivial⟩ (jn51 σ47 (sg_F_r [93, 94, 95, 96, 97, 98, 99, 100, 105, 110, 111, 112, 8088, 9088, 30088, 31088, 32088, 35088, 37088] σ47) w)
            ·
              have w := w.2 h50
              refine wk_b tt_313 4 (pc' := 155) (ls' := [(0, .inr (.inr (.ref 88))), (1, .inl ((sg_g σ 88 19)))]) (st' := [.inr (.inr (.ref 88)), .inl ((sg_g σ 88 19)), .inr (.inr (.ref 105))]) (σ' := σ47) rfl ?_
              refine wk_call tt_313 rfl rfl rfl rfl rfl tt_320 rfl (by decide) (w_readWhole z σ47  _  w) (fun u77 σ73 hq75 => ?_)
              obtain ⟨q72, rfl, r76, hF74, w⟩ := hq75
              have w := w r76 hF74
              refine wk_is tt_313 rfl rfl c8.1 c8.2 (sg_Rg _ _ _) ?_
              generalize hs79 : (sg_w σ73 105 ((sg_g σ 88 19)) (q72)) = σ78
              have w := w σ78 hs79.symm
              have hF80 : sg_F [105] σ73 σ78 := by rw [← hs79]; exact sg_F_w (sg_F_r _ _) rfl _
              exact wk_ls [(0, .inr (.inr (.ref 88)))] rfl ⟨rfl, trivial⟩ (jn51 σ78 (sg_F_t (sg_F_t (sg_F_r [93, 94, 95, 96, 97, 98, 99, 100, 105, 110, 111, 112, 8088, 9088, 30088, 31088, 32088, 35088, 37088] σ47) (sg_F_m (L := [93, 94, 95, 96, 97, 98, 99, 100, 105, 110, 111, 112, 8088, 9088, 30088, 31088, 32088, 35088, 37088]) hF74 rfl)) (sg_F_m (L := [93, 94, 95, 96, 97, 98, 99, 100, 105, 110, 111, 112, 8088, 9088, 30088, 31088, 32088, 35088, 37088]) hF80 rfl)) w)
          refine wk_if tt_313 (tgt := 142) rfl rfl (sg_Rg _ _ _) (fun (h44 : ¬ (sg_g σ41 88 29) = 0) => ?_) (fun (h44 : (sg_g σ41 88 29) = 0) => ?_)
          ·
            have w := w.1 h44
            exact wk_ls [(0, .inr (.inr (.ref 88))), (1, .inl ((sg_g σ 88 19)))] rfl ⟨rfl, rfl, trivial⟩ (jn45 σ41 (sg_F_r [8088, 30088, 31088] σ41) w)
          ·
            have w := w.2 h44
            refine wk_b tt_313 3 (pc' := 136) (ls' := [(0, .inr (.inr (.ref 88))), (1, .inl ((sg_g σ 88 19)))]) (st' := [.inl (61), .inr (.inr (.ref 88)), .inr (.inr (.ref 88))]) (σ' := σ41) rfl ?_
            obtain ⟨c81, w⟩ := w
            refine wk_callp tt_313 rfl rfl rfl rfl rfl tt_268 rfl (by decide) (w_isSignNow z σ41 (61) (by decide) c81) ?_
            refine wk_call tt_313 rfl rfl rfl rfl rfl tt_334 rfl (by decide) (w_want z σ41 ((v_isSignNow σ41 (61))) _ (sg_Rz (vz_isSignNow ..)) w) (fun u87 σ83 hq85 => ?_)
            obtain ⟨rfl, hF84, w⟩ := hq85
            have w := w hF84
            exact wk_ls [(0, .inr (.inr (.ref 88))), (1, .inl ((sg_g σ 88 19)))] rfl ⟨rfl, rfl, trivial⟩ (jn45 σ83 (sg_F_t (sg_F_r [8088, 30088, 31088] σ41) (sg_F_m (L := [8088, 30088, 31088]) hF84 rfl)) w)
        refine wk_if tt_313 (tgt := 125) rfl rfl (sg_Rg _ _ _) (fun (h38 : ¬ (sg_g σ35 88 29) = 0) => ?_) (fun (h38 : (sg_g σ35 88 29) = 0) => ?_)
        ·
          have w := w.1 h38
          exact wk_ls [(0, .inr (.inr (.ref 88))), (1, .inl ((sg_g σ 88 19)))] rfl ⟨rfl, rfl, trivial⟩ (jn39 σ35 (sg_F_r [8088, 30088, 31088] σ35) w)
        ·
          have w := w.2 h38
          refine wk_b tt_313 3 (pc' := 119) (ls' := [(0, .inr (.inr (.ref 88))), (1, .inl ((sg_g σ 88 19)))]) (st' := [.inl (41), .inr (.inr (.ref 88)), .inr (.inr (.ref 88))]) (σ' := σ35) rfl ?_
          obtain ⟨c88, w⟩ := w
          refine wk_callp tt_313 rfl rfl rfl rfl rfl tt_268 rfl (by decide) (w_isSignNow z σ35 (41) (by decide) c88) ?_
          refine wk_call tt_313 rfl rfl rfl rfl rfl tt_334 rfl (by decide) (w_want z σ35 ((v_isSignNow σ35 (41))) _ (sg_Rz (vz_isSignNow ..)) w) (fun u94 σ90 hq92 => ?_)
          obtain ⟨rfl, hF91, w⟩ := hq92
          have w := w hF91
          exact wk_ls [(0, .inr (.inr (.ref 88))), (1, .inl ((sg_g σ 88 19)))] rfl ⟨rfl, rfl, trivial⟩ (jn39 σ90 (sg_F_t (sg_F_r [8088, 30088, 31088] σ35) (sg_F_m (L := [8088, 30088, 31088]) hF91 rfl)) w)
      refine wk_if tt_313 (tgt := 108) rfl rfl (sg_Rg _ _ _) (fun (h32 : ¬ (sg_g σ29 88 29) = 0) => ?_) (fun (h32 : (sg_g σ29 88 29) = 0) => ?_)
      ·
        have w := w.1 h32
        exact wk_ls [(0, .inr (.inr (.ref 88))), (1, .inl ((sg_g σ 88 19)))] rfl ⟨rfl, rfl, trivial⟩ (jn33 σ29 (sg_F_r [106, 107, 108, 109, 8088, 30088, 31088] σ29) w)
      ·
        have w := w.2 h32
        refine wk_b tt_313 2 (pc' := 105) (ls' := [(0, .inr (.inr (.ref 88))), (1, .inl ((sg_g σ 88 19)))]) (st' := [.inl ((sg_g σ 88 19)), .inr (.inr (.ref 88))]) (σ' := σ29) rfl ?_
        refine wk_call tt_313 rfl rfl rfl rfl rfl tt_318 rfl (by decide) (w_readParams z σ29 ((sg_g σ 88 19)) _ (sg_Rg _ _ _) w) (fun u100 σ96 hq98 => ?_)
        obtain ⟨rfl, hF97, w⟩ := hq98
        have w := w hF97
        exact wk_ls [(0, .inr (.inr (.ref 88))), (1, .inl ((sg_g σ 88 19)))] rfl ⟨rfl, rfl, trivial⟩ (jn33 σ96 (sg_F_t (sg_F_r [106, 107, 108, 109, 8088, 30088, 31088] σ29) (sg_F_m (L := [106, 107, 108, 109, 8088, 30088, 31088]) hF97 rfl)) w)
    refine wk_if tt_313 (tgt := 96) rfl rfl (sg_Rg _ _ _) (fun (h26 : ¬ (sg_g σ21 88 29) = 0) => ?_) (fun (h26 : (sg_g σ21 88 29) = 0) => ?_)
    ·
      have w := w.1 h26
      exact wk_ls [(0, .inr (.inr (.ref 88))), (1, .inl ((sg_g σ 88 19)))] rfl ⟨rfl, rfl, trivial⟩ (jn27 σ21 (sg_F_r [8088, 30088, 31088] σ21) w)
    ·
      have w := w.2 h26
      refine wk_b tt_313 3 (pc' := 90) (ls' := [(1, .inl ((sg_g σ 88 19))), (0, .inr (.inr (.ref 88)))]) (st' := [.inl (40), .inr (.inr (.ref 88)), .inr (.inr (.ref 88))]) (σ' := σ21) rfl ?_
      obtain ⟨c101, w⟩ := w
      refine wk_callp tt_313 rfl rfl rfl rfl rfl tt_268 rfl (by decide) (w_isSignNow z σ21 (40) (by decide) c101) ?_
      refine wk_call tt_313 rfl rfl rfl rfl rfl tt_334 rfl (by decide) (w_want z σ21 ((v_isSignNow σ21 (40))) _ (sg_Rz (vz_isSignNow ..)) w) (fun u107 σ103 hq105 => ?_)
      obtain ⟨rfl, hF104, w⟩ := hq105
      have w := w hF104
      exact wk_ls [(0, .inr (.inr (.ref 88))), (1, .inl ((sg_g σ 88 19)))] rfl ⟨rfl, rfl, trivial⟩ (jn27 σ103 (sg_F_t (sg_F_r [8088, 30088, 31088] σ21) (sg_F_m (L := [8088, 30088, 31088]) hF104 rfl)) w)
  ·
    have w := w.2 h1
    refine wk_b tt_313 6 (pc' := 19) (ls' := [(0, .inr (.inr (.ref 88)))]) (st' := [.inl ((sg_g σ 88 7)), .inr (.inr (.ref 91)), .inl (1), .inr (.inr (.ref 88))]) (σ' := σ) rfl ?_
    obtain ⟨c108, w⟩ := w
    refine wk_ia tt_313 rfl rfl c108.1 c108.2 (sg_Rg _ _ _) ?_
    refine wk_call tt_313 rfl rfl rfl rfl rfl tt_336 rfl (by decide) (w_wrong z σ (1) ((sg_g σ 91 ((sg_g σ 88 7)))) _ (by decide) (sg_Rg _ _ _) w) (fun u114 σ110 hq112 => ?_)
    obtain ⟨rfl, hF111, w⟩ := hq112
    have w := w hF111
    exact wk_rV tt_313 rfl rfl ⟨rfl, (sg_F_t (sg_F_r [93, 94, 95, 96, 97, 98, 99, 100, 103, 104, 105, 106, 107, 108, 109, 110, 111, 112, 8088, 9088, 20088, 30088, 31088, 32088, 35088, 37088] σ) (sg_F_m (L := [93, 94, 95, 96, 97, 98, 99, 100, 103, 104, 105, 106, 107, 108, 109, 110, 111, 112, 8088, 9088, 20088, 30088, 31088, 32088, 35088, 37088]) hF111 rfl)), w⟩
-- NestedVectorsModel.read
def V_read (σ : sg_S) (Q : Int → sg_S → Prop) : Prop := ∀ σ1, σ1 = (sg_w σ 88 0 (0)) → ∀ σ4, σ4 = (sg_w σ1 88 28 (0)) → ∀ σ7, σ7 = (sg_w σ4 88 51 (0)) → ∀ σ10, σ10 = (sg_w σ7 88 81 (0)) → ∀ σ13, σ13 = (sg_w σ10 88 29 (0)) → ∀ σ16, σ16 = (sg_w σ13 88 8 (0)) → ∀ σ19, σ19 = (sg_w σ16 88 19 (0)) → ∀ σ22, σ22 = (sg_w σ19 88 7 (0)) → V_cutTokens σ22  (fun σ26 => sg_F [90, 91, 92, 4088] σ22 σ26 → (∃ (I33 : Nat → sg_S → Prop) (X35 : sg_S → Prop), (∃ n, I33 n σ26) ∧ (∀ (n42 : Nat) (σ31 : sg_S), sg_F [93, 94, 95, 96, 97, 98, 99, 100, 103, 104, 105, 106, 107, 108, 109, 110, 111, 112, 8088, 9088, 20088, 30088, 31088, 32088, 35088, 37088] σ26 σ31 → I33 n42 σ31 → ((¬ (sg_g σ31 88 29) = 0 → X35 σ31) ∧ ((sg_g σ31 88 29) = 0 → p_isWord σ31 (6579558) ∧ (((v_isWord σ31 (6579558)) = 0 → X35 σ31) ∧ (¬ (v_isWord σ31 (6579558)) = 0 → V_readDef σ31  (fun σ97 => sg_F [93, 94, 95, 96, 97, 98, 99, 100, 103, 104, 105, 106, 107, 108, 109, 110, 111, 112, 8088, 9088, 20088, 30088, 31088, 32088, 35088, 37088] σ31 σ97 → (∃ m, m < n42 ∧ I33 m σ97))))))) ∧ (∀ (σ31 : sg_S), sg_F [93, 94, 95, 96, 97, 98, 99, 100, 103, 104, 105, 106, 107, 108, 109, 110, 111, 112, 8088, 9088, 20088, 30088, 31088, 32088, 35088, 37088] σ26 σ31 → X35 σ31 → (∃ P46 : sg_S → Prop, ((¬ (sg_g σ31 88 29) = 0 → P46 σ31) ∧ ((sg_g σ31 88 29) = 0 → V_readWhole σ31  (fun q84 σ85 => sg_R q84 → sg_F [93, 94, 95, 96, 97, 98, 99, 100, 110, 111, 112, 8088, 9088, 30088, 31088, 32088, 35088, 37088] σ31 σ85 → ∀ σ90, σ90 = (sg_w σ85 88 27 (q84)) → P46 σ90))) ∧ (∀ (σ47 : sg_S), sg_F [93, 94, 95, 96, 97, 98, 99, 100, 110, 111, 112, 8088, 9088, 28088, 30088, 31088, 32088, 35088, 37088] σ31 σ47 → P46 σ47 → (∃ P52 : sg_S → Prop, ((¬ (sg_g σ47 88 29) = 0 → P52 σ47) ∧ ((sg_g σ47 88 29) = 0 → (0 ≤ (sg_g σ47 88 7) ∧ (sg_g σ47 88 7) < 1210) ∧ (((sg_g σ26 90 ((sg_g σ47 88 7))) = 0 → P52 σ47) ∧ (¬ (sg_g σ26 90 ((sg_g σ47 88 7))) = 0 → V_wrong σ47 (1) ((sg_g σ26 91 ((sg_g σ47 88 7)))) (fun σ79 => sg_F [30088, 31088] σ47 σ79 → P52 σ79))))) ∧ (∀ (σ53 : sg_S), sg_F [30088, 31088] σ47 σ53 → P52 σ53 → (∃ P58 : sg_S → Prop, ((¬ (sg_g σ53 88 29) = 0 → P58 σ53) ∧ ((sg_g σ53 88 29) = 0 → V_look σ53  (fun σ71 => sg_F [101, 102, 113, 114, 115, 116, 117, 118, 30088, 31088, 38088, 43088, 46088] σ53 σ71 → P58 σ71))) ∧ (∀ (σ59 : sg_S), sg_F [101, 102, 113, 114, 115, 116, 117, 118, 30088, 31088, 38088, 43088, 46088] σ53 σ59 → P58 σ59 → (((sg_g σ59 88 29) = 0 → ∀ σ63, σ63 = (sg_w σ59 88 28 (1)) → ∀ σ66, σ66 = (sg_w σ63 88 2 (0)) → Q ((sg_g σ47 88 8)) σ66) ∧ (¬ (sg_g σ59 88 29) = 0 → sg_R ((-100) - (sg_g σ59 88 30)) ∧ Q (((-100) - (sg_g σ59 88 30))) σ59)))))))))))
set_option maxHeartbeats 4000000 in
set_option maxRecDepth 8000 in
theorem w_read (z : Value) (σ : sg_S) (Q : Int → sg_S → Prop)  (w : V_read σ  Q) : wx z 10 310 0 [(0, .inr (.inr (.ref 88)))] [] σ (fun v σ' => ∃ q, v = some (.inl q) ∧ sg_R q ∧ sg_F [90, 91, 92, 93, 94, 95, 96, 97, 98, 99, 100, 101, 102, 103, 104, 105, 106, 107, 108, 109, 110, 111, 112, 113, 114, 115, 116, 117, 118, 1088, 3088, 4088, 8088, 9088, 20088, 28088, 29088, 30088, 31088, 32088, 35088, 37088, 38088, 43088, 46088, 52088, 82088] σ σ' ∧ Q q σ') := by
  unfold V_read at w
  refine wk_b tt_310 3 (pc' := 5) (ls' := [(0, .inr (.inr (.ref 88)))]) (st' := []) (σ' := (sg_w σ 88 0 (0))) rfl ?_
  generalize hs2 : (sg_w σ 88 0 (0)) = σ1
  have w := w σ1 hs2.symm
  have hF3 : sg_F [1088] σ σ1 := by rw [← hs2]; exact sg_F_w (sg_F_r _ _) rfl _
  refine wk_b tt_310 3 (pc' := 10) (ls' := [(0, .inr (.inr (.ref 88)))]) (st' := []) (σ' := (sg_w σ1 88 28 (0))) rfl ?_
  generalize hs5 : (sg_w σ1 88 28 (0)) = σ4
  have w := w σ4 hs5.symm
  have hF6 : sg_F [29088] σ1 σ4 := by rw [← hs5]; exact sg_F_w (sg_F_r _ _) rfl _
  refine wk_b tt_310 3 (pc' := 15) (ls' := [(0, .inr (.inr (.ref 88)))]) (st' := []) (σ' := (sg_w σ4 88 51 (0))) rfl ?_
  generalize hs8 : (sg_w σ4 88 51 (0)) = σ7
  have w := w σ7 hs8.symm
  have hF9 : sg_F [52088] σ4 σ7 := by rw [← hs8]; exact sg_F_w (sg_F_r _ _) rfl _
  refine wk_b tt_310 3 (pc' := 20) (ls' := [(0, .inr (.inr (.ref 88)))]) (st' := []) (σ' := (sg_w σ7 88 81 (0))) rfl ?_
  generalize hs11 : (sg_w σ7 88 81 (0)) = σ10
  have w := w σ10 hs11.symm
  have hF12 : sg_F [82088] σ7 σ10 := by rw [← hs11]; exact sg_F_w (sg_F_r _ _) rfl _
  refine wk_b tt_310 3 (pc' := 25) (ls' := [(0, .inr (.inr (.ref 88)))]) (st' := []) (σ' := (sg_w σ10 88 29 (0))) rfl ?_
  generalize hs14 : (sg_w σ10 88 29 (0)) = σ13
  have w := w σ13 hs14.symm
  have hF15 : sg_F [30088] σ10 σ13 := by rw [← hs14]; exact sg_F_w (sg_F_r _ _) rfl _
  refine wk_b tt_310 3 (pc' := 30) (ls' := [(0, .inr (.inr (.ref 88)))]) (st' := []) (σ' := (sg_w σ13 88 8 (0))) rfl ?_
  generalize hs17 : (sg_w σ13 88 8 (0)) = σ16
  have w := w σ16 hs17.symm
  have hF18 : sg_F [9088] σ13 σ16 := by rw [← hs17]; exact sg_F_w (sg_F_r _ _) rfl _
  refine wk_b tt_310 3 (pc' := 35) (ls' := [(0, .inr (.inr (.ref 88)))]) (st' := []) (σ' := (sg_w σ16 88 19 (0))) rfl ?_
  generalize hs20 : (sg_w σ16 88 19 (0)) = σ19
  have w := w σ19 hs20.symm
  have hF21 : sg_F [20088] σ16 σ19 := by rw [← hs20]; exact sg_F_w (sg_F_r _ _) rfl _
  refine wk_b tt_310 3 (pc' := 40) (ls' := [(0, .inr (.inr (.ref 88)))]) (st' := []) (σ' := (sg_w σ19 88 7 (0))) rfl ?_
  generalize hs23 : (sg_w σ19 88 7 (0)) = σ22
  have w := w σ22 hs23.symm
  have hF24 : sg_F [8088] σ19 σ22 := by rw [← hs23]; exact sg_F_w (sg_F_r _ _) rfl _
  refine wk_b tt_310 1 (pc' := 41) (ls' := [(0, .inr (.inr (.ref 88)))]) (st' := [.inr (.inr (.ref 88))]) (σ' := σ22) rfl ?_
  refine wk_call tt_310 rfl rfl rfl rfl rfl tt_220 rfl (by decide) (w_cutTokens z σ22  _  w) (fun u30 σ26 hq28 => ?_)
  obtain ⟨rfl, hF27, w⟩ := hq28
  have w := w hF27
  obtain ⟨I33, X35, ⟨μ34, w39⟩, w40, w41⟩ := w
  have ex43 : ∀ (σ31 : sg_S), sg_F [93, 94, 95, 96, 97, 98, 99, 100, 103, 104, 105, 106, 107, 108, 109, 110, 111, 112, 8088, 9088, 20088, 30088, 31088, 32088, 35088, 37088] σ26 σ31 → X35 σ31 → wx z 10 310 68 [(0, .inr (.inr (.ref 88)))] [] σ31 (fun v σ' => ∃ q, v = some (.inl q) ∧ sg_R q ∧ sg_F [90, 91, 92, 93, 94, 95, 96, 97, 98, 99, 100, 101, 102, 103, 104, 105, 106, 107, 108, 109, 110, 111, 112, 113, 114, 115, 116, 117, 118, 1088, 3088, 4088, 8088, 9088, 20088, 28088, 29088, 30088, 31088, 32088, 35088, 37088, 38088, 43088, 46088, 52088, 82088] σ σ' ∧ Q q σ') := by
    intro σ31 hF32 w
    have w := w41 σ31 hF32 w
    refine wk_b tt_310 2 (pc' := 72) (ls' := [(0, .inr (.inr (.ref 88)))]) (st' := [.inl ((sg_g σ31 88 29))]) (σ' := σ31) rfl ?_
    obtain ⟨P46, w, w49⟩ := w
    have jn45 : ∀ (σ47 : sg_S), sg_F [93, 94, 95, 96, 97, 98, 99, 100, 110, 111, 112, 8088, 9088, 28088, 30088, 31088, 32088, 35088, 37088] σ31 σ47 → P46 σ47 → wx z 10 310 83 [(0, .inr (.inr (.ref 88)))] [] σ47 (fun v σ' => ∃ q, v = some (.inl q) ∧ sg_R q ∧ sg_F [90, 91, 92, 93, 94, 95, 96, 97, 98, 99, 100, 101, 102, 103, 104, 105, 106, 107, 108, 109, 110, 111, 112, 113, 114, 115, 116, 117, 118, 1088, 3088, 4088, 8088, 9088, 20088, 28088, 29088, 30088, 31088, 32088, 35088, 37088, 38088, 43088, 46088, 52088, 82088] σ σ' ∧ Q q σ') := by
      intro σ47 hF48 w
      have w := w49 σ47 hF48 w
      refine wk_b tt_310 2 (pc' := 87) (ls' := [(0, .inr (.inr (.ref 88)))]) (st' := [.inl ((sg_g σ47 88 29))]) (σ' := σ47) rfl ?_
      obtain ⟨P52, w, w55⟩ := w
      have jn51 : ∀ (σ53 : sg_S), sg_F [30088, 31088] σ47 σ53 → P52 σ53 → wx z 10 310 116 [(0, .inr (.inr (.ref 88)))] [] σ53 (fun v σ' => ∃ q, v = some (.inl q) ∧ sg_R q ∧ sg_F [90, 91, 92, 93, 94, 95, 96, 97, 98, 99, 100, 101, 102, 103, 104, 105, 106, 107, 108, 109, 110, 111, 112, 113, 114, 115, 116, 117, 118, 1088, 3088, 4088, 8088, 9088, 20088, 28088, 29088, 30088, 31088, 32088, 35088, 37088, 38088, 43088, 46088, 52088, 82088] σ σ' ∧ Q q σ') := by
        intro σ53 hF54 w
        have w := w55 σ53 hF54 w
        refine wk_b tt_310 2 (pc' := 120) (ls' := [(0, .inr (.inr (.ref 88)))]) (st' := [.inl ((sg_g σ53 88 29))]) (σ' := σ53) rfl ?_
        obtain ⟨P58, w, w61⟩ := w
        have jn57 : ∀ (σ59 : sg_S), sg_F [101, 102, 113, 114, 115, 116, 117, 118, 30088, 31088, 38088, 43088, 46088] σ53 σ59 → P58 σ59 → wx z 10 310 127 [(0, .inr (.inr (.ref 88)))] [] σ59 (fun v σ' => ∃ q, v = some (.inl q) ∧ sg_R q ∧ sg_F [90, 91, 92, 93, 94, 95, 96, 97, 98, 99, 100, 101, 102, 103, 104, 105, 106, 107, 108, 109, 110, 111, 112, 113, 114, 115, 116, 117, 118, 1088, 3088, 4088, 8088, 9088, 20088, 28088, 29088, 30088, 31088, 32088, 35088, 37088, 38088, 43088, 46088, 52088, 82088] σ σ' ∧ Q q σ') := by
          intro σ59 hF60 w
          have w := w61 σ59 hF60 w
          refine wk_b tt_310 2 (pc' := 131) (ls' := [(0, .inr (.inr (.ref 88)))]) (st' := [.inl ((sg_g σ59 88 29))]) (σ' := σ59) rfl ?_
          refine wk_if tt_310 (tgt := 142) rfl rfl (sg_Rg _ _ _) (fun (h62 : (sg_g σ59 88 29) = 0) => ?_) (fun (h62 : ¬ (sg_g σ59 88 29) = 0) => ?_)
          ·
            have w := w.1 h62
            refine wk_b tt_310 3 (pc' := 147) (ls' := [(0, .inr (.inr (.ref 88)))]) (st' := []) (σ' := (sg_w σ59 88 28 (1))) rfl ?_
            generalize hs64 : (sg_w σ59 88 28 (1)) = σ63
            have w := w σ63 hs64.symm
            have hF65 : sg_F [29088] σ59 σ63 := by rw [← hs64]; exact sg_F_w (sg_F_r _ _) rfl _
            refine wk_b tt_310 3 (pc' := 152) (ls' := [(0, .inr (.inr (.ref 88)))]) (st' := []) (σ' := (sg_w σ63 88 2 (0))) rfl ?_
            generalize hs67 : (sg_w σ63 88 2 (0)) = σ66
            have w := w σ66 hs67.symm
            have hF68 : sg_F [3088] σ63 σ66 := by rw [← hs67]; exact sg_F_w (sg_F_r _ _) rfl _
            refine wk_b tt_310 2 (pc' := 156) (ls' := [(0, .inr (.inr (.ref 88)))]) (st' := [.inl ((sg_g σ66 88 8))]) (σ' := σ66) rfl ?_
            rw [show (sg_g σ66 88 8) = (sg_g σ47 88 8) from by rw [sg_F_g hF68 rfl, sg_F_g hF65 rfl, sg_F_g hF60 rfl, sg_F_g hF54 rfl]]
            exact wk_rI tt_310 rfl rfl ⟨_, rfl, (sg_Rg _ _ _), (sg_F_t (sg_F_t (sg_F_t (sg_F_t (sg_F_t (sg_F_t (sg_F_t (sg_F_t (sg_F_t (sg_F_t (sg_F_t (sg_F_t (sg_F_t (sg_F_t (sg_F_t (sg_F_r [90, 91, 92, 93, 94, 95, 96, 97, 98, 99, 100, 101, 102, 103, 104, 105, 106, 107, 108, 109, 110, 111, 112, 113, 114, 115, 116, 117, 118, 1088, 3088, 4088, 8088, 9088, 20088, 28088, 29088, 30088, 31088, 32088, 35088, 37088, 38088, 43088, 46088, 52088, 82088] σ) (sg_F_m (L := [90, 91, 92, 93, 94, 95, 96, 97, 98, 99, 100, 101, 102, 103, 104, 105, 106, 107, 108, 109, 110, 111, 112, 113, 114, 115, 116, 117, 118, 1088, 3088, 4088, 8088, 9088, 20088, 28088, 29088, 30088, 31088, 32088, 35088, 37088, 38088, 43088, 46088, 52088, 82088]) hF3 rfl)) (sg_F_m (L := [90, 91, 92, 93, 94, 95, 96, 97, 98, 99, 100, 101, 102, 103, 104, 105, 106, 107, 108, 109, 110, 111, 112, 113, 114, 115, 116, 117, 118, 1088, 3088, 4088, 8088, 9088, 20088, 28088, 29088, 30088, 31088, 32088, 35088, 37088, 38088, 43088, 46088, 52088, 82088]) hF6 rfl)) (sg_F_m (L := [90, 91, 92, 93, 94, 95, 96, 97, 98, 99, 100, 101, 102, 103, 104, 105, 106, 107, 108, 109, 110, 111, 112, 113, 114, 115, 116, 117, 118, 1088, 3088, 4088, 8088, 9088, 20088, 28088, 29088, 30088, 31088, 32088, 35088, 37088, 38088, 43088, 46088, 52088, 82088]) hF9 rfl)) (sg_F_m (L := [90, 91, 92, 93, 94, 95, 96, 97, 98, 99, 100, 101, 102, 103, 104, 105, 106, 107, 108, 109, 110, 111, 112, 113, 114, 115, 116, 117, 118, 1088, 3088, 4088, 8088, 9088, 20088, 28088, 29088, 30088, 31088, 32088, 35088, 37088, 38088, 43088, 46088, 52088, 82088]) hF12 rfl)) (sg_F_m (L := [90, 91, 92, 93, 94, 95, 96, 97, 98, 99, 100, 101, 102, 103, 104, 105, 106, 107, 108, 109, 110, 111, 112, 113, 114, 115, 116, 117, 118, 1088, 3088, 4088, 8088, 9088, 20088, 28088, 29088, 30088, 31088, 32088, 35088, 37088, 38088, 43088, 46088, 52088, 82088]) hF15 rfl)) (sg_F_m (L := [90, 91, 92, 93, 94, 95, 96, 97, 98, 99, 100, 101, 102, 103, 104, 105, 106, 107, 108, 109, 110, 111, 112, 113, 114, 115, 116, 117, 118, 1088, 3088, 4088, 8088, 9088, 20088, 28088, 29088, 30088, 31088, 32088, 35088, 37088, 38088, 43088, 46088, 52088, 82088]) hF18 rfl)) (sg_F_m (L := [90, 91, 92, 93, 94, 95, 96, 97, 98, 99, 100, 101, 102, 103, 104, 105, 106, 107, 108, 109, 110, 111, 112, 113, 114, 115, 116, 117, 118, 1088, 3088, 4088, 8088, 9088, 20088, 28088, 29088, 30088, 31088, 32088, 35088, 37088, 38088, 43088, 46088, 52088, 82088]) hF21 rfl)) (sg_F_m (L := [90, 91, 92, 93, 94, 95, 96, 97, 98, 99, 100, 101, 102, 103, 104, 105, 106, 107, 108, 109, 110, 111, 112, 113, 114, 115, 116, 117, 118, 1088, 3088, 4088, 8088, 9088, 20088, 28088, 29088, 30088, 31088, 32088, 35088, 37088, 38088, 43088, 46088, 52088, 82088]) hF24 rfl)) (sg_F_m (L := [90, 91, 92, 93, 94, 95, 96, 97, 98, 99, 100, 101, 102, 103, 104, 105, 106, 107, 108, 109, 110, 111, 112, 113, 114, 115, 116, 117, 118, 1088, 3088, 4088, 8088, 9088, 20088, 28088, 29088, 30088, 31088, 32088, 35088, 37088, 38088, 43088, 46088, 52088, 82088]) hF27 rfl)) (sg_F_m (L := [90, 91, 92, 93, 94, 95, 96, 97, 98, 99, 100, 101, 102, 103, 104, 105, 106, 107, 108, 109, 110, 111, 112, 113, 114, 115, 116, 117, 118, 1088, 3088, 4088, 8088, 9088, 20088, 28088, 29088, 30088, 31088, 32088, 35088, 37088, 38088, 43088, 46088, 52088, 82088]) hF32 rfl)) (sg_F_m (L := [90, 91, 92, 93, 94, 95, 96, 97, 98, 99, 100, 101, 102, 103, 104, 105, 106, 107, 108, 109, 110, 111, 112, 113, 114, 115, 116, 117, 118, 1088, 3088, 4088, 8088, 9088, 20088, 28088, 29088, 30088, 31088, 32088, 35088, 37088, 38088, 43088, 46088, 52088, 82088]) hF48 rfl)) (sg_F_m (L := [90, 91, 92, 93, 94, 95, 96, 97, 98, 99, 100, 101, 102, 103, 104, 105, 106, 107, 108, 109, 110, 111, 112, 113, 114, 115, 116, 117, 118, 1088, 3088, 4088, 8088, 9088, 20088, 28088, 29088, 30088, 31088, 32088, 35088, 37088, 38088, 43088, 46088, 52088, 82088]) hF54 rfl)) (sg_F_m (L := [90, 91, 92, 93, 94, 95, 96, 97, 98, 99, 100, 101, 102, 103, 104, 105, 106, 107, 108, 109, 110, 111, 112, 113, 114, 115, 116, 117, 118, 1088, 3088, 4088, 8088, 9088, 20088, 28088, 29088, 30088, 31088, 32088, 35088, 37088, 38088, 43088, 46088, 52088, 82088]) hF60 rfl)) (sg_F_m (L := [90, 91, 92, 93, 94, 95, 96, 97, 98, 99, 100, 101, 102, 103, 104, 105, 106, 107, 108, 109, 110, 111, 112, 113, 114, 115, 116, 117, 118, 1088, 3088, 4088, 8088, 9088, 20088, 28088, 29088, 30088, 31088, 32088, 35088, 37088, 38088, 43088, 46088, 52088, 82088]) hF65 rfl)) (sg_F_m (L := [90, 91, 92, 93, 94, 95, 96, 97, 98, 99, 100, 101, 102, 103, 104, 105, 106, 107, 108, 109, 110, 111, 112, 113, 114, 115, 116, 117, 118, 1088, 3088, 4088, 8088, 9088, 20088, 28088, 29088, 30088, 31088, 32088, 35088, 37088, 38088, 43088, 46088, 52088, 82088]) hF68 rfl)), w⟩
          ·
            have w := w.2 h62
            obtain ⟨c69, w⟩ := w
            refine wk_b tt_310 4 (pc' := 141) (ls' := [(0, .inr (.inr (.ref 88)))]) (st' := [.inl (((-100) - (sg_g σ59 88 30)))]) (σ' := σ59) rfl ?_
            exact wk_rI tt_310 rfl rfl ⟨_, rfl, c69, (sg_F_t (sg_F_t (sg_F_t (sg_F_t (sg_F_t (sg_F_t (sg_F_t (sg_F_t (sg_F_t (sg_F_t (sg_F_t (sg_F_t (sg_F_t (sg_F_r [90, 91, 92, 93, 94, 95, 96, 97, 98, 99, 100, 101, 102, 103, 104, 105, 106, 107, 108, 109, 110, 111, 112, 113, 114, 115, 116, 117, 118, 1088, 3088, 4088, 8088, 9088, 20088, 28088, 29088, 30088, 31088, 32088, 35088, 37088, 38088, 43088, 46088, 52088, 82088] σ) (sg_F_m (L := [90, 91, 92, 93, 94, 95, 96, 97, 98, 99, 100, 101, 102, 103, 104, 105, 106, 107, 108, 109, 110, 111, 112, 113, 114, 115, 116, 117, 118, 1088, 3088, 4088, 8088, 9088, 20088, 28088, 29088, 30088, 31088, 32088, 35088, 37088, 38088, 43088, 46088, 52088, 82088]) hF3 rfl)) (sg_F_m (L := [90, 91, 92, 93, 94, 95, 96, 97, 98, 99, 100, 101, 102, 103, 104, 105, 106, 107, 108, 109, 110, 111, 112, 113, 114, 115, 116, 117, 118, 1088, 3088, 4088, 8088, 9088, 20088, 28088, 29088, 30088, 31088, 32088, 35088, 37088, 38088, 43088, 46088, 52088, 82088]) hF6 rfl)) (sg_F_m (L := [90, 91, 92, 93, 94, 95, 96, 97, 98, 99, 100, 101, 102, 103, 104, 105, 106, 107, 108, 109, 110, 111, 112, 113, 114, 115, 116, 117, 118, 1088, 3088, 4088, 8088, 9088, 20088, 28088, 29088, 30088, 31088, 32088, 35088, 37088, 38088, 43088, 46088, 52088, 82088]) hF9 rfl)) (sg_F_m (L := [90, 91, 92, 93, 94, 95, 96, 97, 98, 99, 100, 101, 102, 103, 104, 105, 106, 107, 108, 109, 110, 111, 112, 113, 114, 115, 116, 117, 118, 1088, 3088, 4088, 8088, 9088, 20088, 28088, 29088, 30088, 31088, 32088, 35088, 37088, 38088, 43088, 46088, 52088, 82088]) hF12 rfl)) (sg_F_m (L := [90, 91, 92, 93, 94, 95, 96, 97, 98, 99, 100, 101, 102, 103, 104, 105, 106, 107, 108, 109, 110, 111, 112, 113, 114, 115, 116, 117, 118, 1088, 3088, 4088, 8088, 9088, 20088, 28088, 29088, 30088, 31088, 32088, 35088, 37088, 38088, 43088, 46088, 52088, 82088]) hF15 rfl)) (sg_F_m (L := [90, 91, 92, 93, 94, 95, 96, 97, 98, 99, 100, 101, 102, 103, 104, 105, 106, 107, 108, 109, 110, 111, 112, 113, 114, 115, 116, 117, 118, 1088, 3088, 4088, 8088, 9088, 20088, 28088, 29088, 30088, 31088, 32088, 35088, 37088, 38088, 43088, 46088, 52088, 82088]) hF18 rfl)) (sg_F_m (L := [90, 91, 92, 93, 94, 95, 96, 97, 98, 99, 100, 101, 102, 103, 104, 105, 106, 107, 108, 109, 110, 111, 112, 113, 114, 115, 116, 117, 118, 1088, 3088, 4088, 8088, 9088, 20088, 28088, 29088, 30088, 31088, 32088, 35088, 37088, 38088, 43088, 46088, 52088, 82088]) hF21 rfl)) (sg_F_m (L := [90, 91, 92, 93, 94, 95, 96, 97, 98, 99, 100, 101, 102, 103, 104, 105, 106, 107, 108, 109, 110, 111, 112, 113, 114, 115, 116, 117, 118, 1088, 3088, 4088, 8088, 9088, 20088, 28088, 29088, 30088, 31088, 32088, 35088, 37088, 38088, 43088, 46088, 52088, 82088]) hF24 rfl)) (sg_F_m (L := [90, 91, 92, 93, 94, 95, 96, 97, 98, 99, 100, 101, 102, 103, 104, 105, 106, 107, 108, 109, 110, 111, 112, 113, 114, 115, 116, 117, 118, 1088, 3088, 4088, 8088, 9088, 20088, 28088, 29088, 30088, 31088, 32088, 35088, 37088, 38088, 43088, 46088, 52088, 82088]) hF27 rfl)) (sg_F_m (L := [90, 91, 92, 93, 94, 95, 96, 97, 98, 99, 100, 101, 102, 103, 104, 105, 106, 107, 108, 109, 110, 111, 112, 113, 114, 115, 116, 117, 118, 1088, 3088, 4088, 8088, 9088, 20088, 28088, 29088, 30088, 31088, 32088, 35088, 37088, 38088, 43088, 46088, 52088, 82088]) hF32 rfl)) (sg_F_m (L := [90, 91, 92, 93, 94, 95, 96, 97, 98, 99, 100, 101, 102, 103, 104, 105, 106, 107, 108, 109, 110, 111, 112, 113, 114, 115, 116, 117, 118, 1088, 3088, 4088, 8088, 9088, 20088, 28088, 29088, 30088, 31088, 32088, 35088, 37088, 38088, 43088, 46088, 52088, 82088]) hF48 rfl)) (sg_F_m (L := [90, 91, 92, 93, 94, 95, 96, 97, 98, 99, 100, 101, 102, 103, 104, 105, 106, 107, 108, 109, 110, 111, 112, 113, 114, 115, 116, 117, 118, 1088, 3088, 4088, 8088, 9088, 20088, 28088, 29088, 30088, 31088, 32088, 35088, 37088, 38088, 43088, 46088, 52088, 82088]) hF54 rfl)) (sg_F_m (L := [90, 91, 92, 93, 94, 95, 96, 97, 98, 99, 100, 101, 102, 103, 104, 105, 106, 107, 108, 109, 110, 111, 112, 113, 114, 115, 116, 117, 118, 1088, 3088, 4088, 8088, 9088, 20088, 28088, 29088, 30088, 31088, 32088, 35088, 37088, 38088, 43088, 46088, 52088, 82088]) hF60 rfl)), w⟩
        refine wk_if tt_310 (tgt := 127) rfl rfl (sg_Rg _ _ _) (fun (h56 : ¬ (sg_g σ53 88 29) = 0) => ?_) (fun (h56 : (sg_g σ53 88 29) = 0) => ?_)
        ·
          have w := w.1 h56
          exact wk_ls [(0, .inr (.inr (.ref 88)))] rfl ⟨rfl, trivial⟩ (jn57 σ53 (sg_F_r [101, 102, 113, 114, 115, 116, 117, 118, 30088, 31088, 38088, 43088, 46088] σ53) w)
        ·
          have w := w.2 h56
          refine wk_b tt_310 1 (pc' := 124) (ls' := [(0, .inr (.inr (.ref 88)))]) (st' := [.inr (.inr (.ref 88))]) (σ' := σ53) rfl ?_
          refine wk_call tt_310 rfl rfl rfl rfl rfl tt_283 rfl (by decide) (w_look z σ53  _  w) (fun u75 σ71 hq73 => ?_)
          obtain ⟨rfl, hF72, w⟩ := hq73
          have w := w hF72
          exact wk_ls [(0, .inr (.inr (.ref 88)))] rfl ⟨rfl, trivial⟩ (jn57 σ71 (sg_F_t (sg_F_r [101, 102, 113, 114, 115, 116, 117, 118, 30088, 31088, 38088, 43088, 46088] σ53) (sg_F_m (L := [101, 102, 113, 114, 115, 116, 117, 118, 30088, 31088, 38088, 43088, 46088]) hF72 rfl)) w)
      refine wk_if tt_310 (tgt := 116) rfl rfl (sg_Rg _ _ _) (fun (h50 : ¬ (sg_g σ47 88 29) = 0) => ?_) (fun (h50 : (sg_g σ47 88 29) = 0) => ?_)
      ·
        have w := w.1 h50
        exact wk_ls [(0, .inr (.inr (.ref 88)))] rfl ⟨rfl, trivial⟩ (jn51 σ47 (sg_F_r [30088, 31088] σ47) w)
      ·
        have w := w.2 h50
        refine wk_b tt_310 4 (pc' := 98) (ls' := [(0, .inr (.inr (.ref 88)))]) (st' := [.inl ((sg_g σ47 88 7)), .inr (.inr (.ref 90))]) (σ' := σ47) rfl ?_
        obtain ⟨c76, w⟩ := w
        refine wk_ia tt_310 rfl rfl c76.1 c76.2 (sg_Rg _ _ _) ?_
        rw [show (sg_g σ47 90 ((sg_g σ47 88 7))) = (sg_g σ26 90 ((sg_g σ47 88 7))) from by rw [sg_F_ga hF48 rfl, sg_F_ga hF32 rfl]]
        refine wk_if tt_310 (tgt := 116) rfl rfl (sg_Rg _ _ _) (fun (h77 : (sg_g σ26 90 ((sg_g σ47 88 7))) = 0) => ?_) (fun (h77 : ¬ (sg_g σ26 90 ((sg_g σ47 88 7))) = 0) => ?_)
        ·
          have w := w.1 h77
          exact wk_ls [(0, .inr (.inr (.ref 88)))] rfl ⟨rfl, trivial⟩ (jn51 σ47 (sg_F_r [30088, 31088] σ47) w)
        ·
          have w := w.2 h77
          refine wk_b tt_310 6 (pc' := 112) (ls' := [(0, .inr (.inr (.ref 88)))]) (st' := [.inl ((sg_g σ47 88 7)), .inr (.inr (.ref 91)), .inl (1), .inr (.inr (.ref 88))]) (σ' := σ47) rfl ?_
          refine wk_ia tt_310 rfl rfl c76.1 c76.2 (sg_Rg _ _ _) ?_
          rw [show (sg_g σ47 91 ((sg_g σ47 88 7))) = (sg_g σ26 91 ((sg_g σ47 88 7))) from by rw [sg_F_ga hF48 rfl, sg_F_ga hF32 rfl]]
          refine wk_call tt_310 rfl rfl rfl rfl rfl tt_336 rfl (by decide) (w_wrong z σ47 (1) ((sg_g σ26 91 ((sg_g σ47 88 7)))) _ (by decide) (sg_Rg _ _ _) w) (fun u83 σ79 hq81 => ?_)
          obtain ⟨rfl, hF80, w⟩ := hq81
          have w := w hF80
          exact wk_ls [(0, .inr (.inr (.ref 88)))] rfl ⟨rfl, trivial⟩ (jn51 σ79 (sg_F_t (sg_F_r [30088, 31088] σ47) (sg_F_m (L := [30088, 31088]) hF80 rfl)) w)
    refine wk_if tt_310 (tgt := 83) rfl rfl (sg_Rg _ _ _) (fun (h44 : ¬ (sg_g σ31 88 29) = 0) => ?_) (fun (h44 : (sg_g σ31 88 29) = 0) => ?_)
    ·
      have w := w.1 h44
      exact wk_ls [(0, .inr (.inr (.ref 88)))] rfl ⟨rfl, trivial⟩ (jn45 σ31 (sg_F_r [93, 94, 95, 96, 97, 98, 99, 100, 110, 111, 112, 8088, 9088, 28088, 30088, 31088, 32088, 35088, 37088] σ31) w)
    ·
      have w := w.2 h44
      refine wk_b tt_310 2 (pc' := 77) (ls' := [(0, .inr (.inr (.ref 88)))]) (st' := [.inr (.inr (.ref 88)), .inr (.inr (.ref 88))]) (σ' := σ31) rfl ?_
      refine wk_call tt_310 rfl rfl rfl rfl rfl tt_320 rfl (by decide) (w_readWhole z σ31  _  w) (fun u89 σ85 hq87 => ?_)
      obtain ⟨q84, rfl, r88, hF86, w⟩ := hq87
      have w := w r88 hF86
      refine wk_b tt_310 1 (pc' := 83) (ls' := [(0, .inr (.inr (.ref 88)))]) (st' := []) (σ' := (sg_w σ85 88 27 (q84))) rfl ?_
      generalize hs91 : (sg_w σ85 88 27 (q84)) = σ90
      have w := w σ90 hs91.symm
      have hF92 : sg_F [28088] σ85 σ90 := by rw [← hs91]; exact sg_F_w (sg_F_r _ _) rfl _
      exact wk_ls [(0, .inr (.inr (.ref 88)))] rfl ⟨rfl, trivial⟩ (jn45 σ90 (sg_F_t (sg_F_t (sg_F_r [93, 94, 95, 96, 97, 98, 99, 100, 110, 111, 112, 8088, 9088, 28088, 30088, 31088, 32088, 35088, 37088] σ31) (sg_F_m (L := [93, 94, 95, 96, 97, 98, 99, 100, 110, 111, 112, 8088, 9088, 28088, 30088, 31088, 32088, 35088, 37088]) hF86 rfl)) (sg_F_m (L := [93, 94, 95, 96, 97, 98, 99, 100, 110, 111, 112, 8088, 9088, 28088, 30088, 31088, 32088, 35088, 37088]) hF92 rfl)) w)
  have lp38 : ∀ (n42 : Nat) (σ31 : sg_S), sg_F [93, 94, 95, 96, 97, 98, 99, 100, 103, 104, 105, 106, 107, 108, 109, 110, 111, 112, 8088, 9088, 20088, 30088, 31088, 32088, 35088, 37088] σ26 σ31 → I33 n42 σ31 → wx z 10 310 44 [(0, .inr (.inr (.ref 88)))] [] σ31 (fun v σ' => ∃ q, v = some (.inl q) ∧ sg_R q ∧ sg_F [90, 91, 92, 93, 94, 95, 96, 97, 98, 99, 100, 101, 102, 103, 104, 105, 106, 107, 108, 109, 110, 111, 112, 113, 114, 115, 116, 117, 118, 1088, 3088, 4088, 8088, 9088, 20088, 28088, 29088, 30088, 31088, 32088, 35088, 37088, 38088, 43088, 46088, 52088, 82088] σ σ' ∧ Q q σ') := by
    intro n42
    induction n42 using Nat.strongRecOn with
    | _ n42 ih36 =>
      intro σ31 hF32 w
      have w := w40 n42 σ31 hF32 w
      refine wk_b tt_310 2 (pc' := 48) (ls' := [(0, .inr (.inr (.ref 88)))]) (st' := [.inl ((sg_g σ31 88 29))]) (σ' := σ31) rfl ?_
      refine wk_if tt_310 (tgt := 68) rfl rfl (sg_Rg _ _ _) (fun (h93 : ¬ (sg_g σ31 88 29) = 0) => ?_) (fun (h93 : (sg_g σ31 88 29) = 0) => ?_)
      ·
        have w := w.1 h93
        exact wk_ls [(0, .inr (.inr (.ref 88)))] rfl ⟨rfl, trivial⟩ (ex43  σ31  (sg_F_t (sg_F_r [93, 94, 95, 96, 97, 98, 99, 100, 103, 104, 105, 106, 107, 108, 109, 110, 111, 112, 8088, 9088, 20088, 30088, 31088, 32088, 35088, 37088] σ26) (sg_F_m (L := [93, 94, 95, 96, 97, 98, 99, 100, 103, 104, 105, 106, 107, 108, 109, 110, 111, 112, 8088, 9088, 20088, 30088, 31088, 32088, 35088, 37088]) hF32 rfl)) w)
      ·
        have w := w.2 h93
        refine wk_b tt_310 2 (pc' := 55) (ls' := [(0, .inr (.inr (.ref 88)))]) (st' := [.inr (.inl (6579558)), .inr (.inr (.ref 88))]) (σ' := σ31) rfl ?_
        obtain ⟨c94, w⟩ := w
        refine wk_callp tt_310 rfl rfl rfl rfl rfl tt_269 rfl (by decide) (w_isWord z σ31 (6579558) (by decide) c94) ?_
        refine wk_if tt_310 (tgt := 68) rfl rfl (sg_Rz (vz_isWord ..)) (fun (h95 : (v_isWord σ31 (6579558)) = 0) => ?_) (fun (h95 : ¬ (v_isWord σ31 (6579558)) = 0) => ?_)
        ·
          have w := w.1 h95
          exact wk_ls [(0, .inr (.inr (.ref 88)))] rfl ⟨rfl, trivial⟩ (ex43  σ31  (sg_F_t (sg_F_r [93, 94, 95, 96, 97, 98, 99, 100, 103, 104, 105, 106, 107, 108, 109, 110, 111, 112, 8088, 9088, 20088, 30088, 31088, 32088, 35088, 37088] σ26) (sg_F_m (L := [93, 94, 95, 96, 97, 98, 99, 100, 103, 104, 105, 106, 107, 108, 109, 110, 111, 112, 8088, 9088, 20088, 30088, 31088, 32088, 35088, 37088]) hF32 rfl)) w)
        ·
          have w := w.2 h95
          refine wk_b tt_310 1 (pc' := 62) (ls' := [(0, .inr (.inr (.ref 88)))]) (st' := [.inr (.inr (.ref 88))]) (σ' := σ31) rfl ?_
          refine wk_call tt_310 rfl rfl rfl rfl rfl tt_313 rfl (by decide) (w_readDef z σ31  _  w) (fun u101 σ97 hq99 => ?_)
          obtain ⟨rfl, hF98, w⟩ := hq99
          have w := w hF98
          refine wk_b tt_310 1 (pc' := 44) (ls' := [(0, .inr (.inr (.ref 88)))]) (st' := []) (σ' := σ97) rfl ?_
          obtain ⟨m102, hm102, w⟩ := w
          exact wk_ls [(0, .inr (.inr (.ref 88)))] rfl ⟨rfl, trivial⟩ (ih36 m102 hm102  σ97  (sg_F_t (sg_F_t (sg_F_r [93, 94, 95, 96, 97, 98, 99, 100, 103, 104, 105, 106, 107, 108, 109, 110, 111, 112, 8088, 9088, 20088, 30088, 31088, 32088, 35088, 37088] σ26) (sg_F_m (L := [93, 94, 95, 96, 97, 98, 99, 100, 103, 104, 105, 106, 107, 108, 109, 110, 111, 112, 8088, 9088, 20088, 30088, 31088, 32088, 35088, 37088]) hF32 rfl)) (sg_F_m (L := [93, 94, 95, 96, 97, 98, 99, 100, 103, 104, 105, 106, 107, 108, 109, 110, 111, 112, 8088, 9088, 20088, 30088, 31088, 32088, 35088, 37088]) hF98 rfl)) w)
  exact wk_ls [(0, .inr (.inr (.ref 88)))] rfl ⟨rfl, trivial⟩ (lp38 μ34  σ26  (sg_F_r _ _) w39)
-- NestedVectorsModel.shown
def V_shown (σ : sg_S) (a1 : Int) (Q : Int → sg_S → Prop) : Prop := ∀ σ1, σ1 = (sg_w σ 88 0 (0)) → ((¬ (v_hasCome σ (a1)) = 0 → ((a1 = 0 → Q ((sg_g σ 88 76)) σ1) ∧ (¬ a1 = 0 → Q ((sg_g σ 88 77)) σ1))) ∧ ((v_hasCome σ (a1)) = 0 → Q ((-4)) σ1))
set_option maxHeartbeats 4000000 in
set_option maxRecDepth 8000 in
theorem w_shown (z : Value) (σ : sg_S) (a1 : Int) (Q : Int → sg_S → Prop) (ra1 : sg_R a1) (w : V_shown σ a1 Q) : wx z 1 328 0 [(0, .inr (.inr (.ref 88))), (1, .inl (a1))] [] σ (fun v σ' => ∃ q, v = some (.inl q) ∧ sg_R q ∧ sg_F [1088] σ σ' ∧ Q q σ') := by
  unfold V_shown at w
  refine wk_b tt_328 3 (pc' := 5) (ls' := [(0, .inr (.inr (.ref 88))), (1, .inl (a1))]) (st' := []) (σ' := (sg_w σ 88 0 (0))) rfl ?_
  generalize hs2 : (sg_w σ 88 0 (0)) = σ1
  have w := w σ1 hs2.symm
  have hF3 : sg_F [1088] σ σ1 := by rw [← hs2]; exact sg_F_w (sg_F_r _ _) rfl _
  refine wk_b tt_328 2 (pc' := 7) (ls' := [(0, .inr (.inr (.ref 88))), (1, .inl (a1))]) (st' := [.inl (a1), .inr (.inr (.ref 88))]) (σ' := σ1) rfl ?_
  refine wk_callp tt_328 rfl rfl rfl rfl rfl tt_256 rfl (by decide) (w_hasCome z σ1 (a1) ra1 ) ?_
  rw [vF_hasCome hF3 rfl rfl rfl rfl]
  refine wk_if tt_328 (tgt := 18) rfl rfl (sg_Rz (vz_hasCome ..)) (fun (h4 : ¬ (v_hasCome σ (a1)) = 0) => ?_) (fun (h4 : (v_hasCome σ (a1)) = 0) => ?_)
  ·
    have w := w.1 h4
    refine wk_b tt_328 1 (pc' := 19) (ls' := [(0, .inr (.inr (.ref 88))), (1, .inl (a1))]) (st' := [.inl (a1)]) (σ' := σ1) rfl ?_
    refine wk_if tt_328 (tgt := 29) rfl rfl ra1 (fun (h5 : a1 = 0) => ?_) (fun (h5 : ¬ a1 = 0) => ?_)
    ·
      have w := w.1 h5
      refine wk_b tt_328 2 (pc' := 33) (ls' := [(0, .inr (.inr (.ref 88))), (1, .inl (a1))]) (st' := [.inl ((sg_g σ1 88 76))]) (σ' := σ1) rfl ?_
      rw [show (sg_g σ1 88 76) = (sg_g σ 88 76) from by rw [sg_F_g hF3 rfl]]
      exact wk_rI tt_328 rfl rfl ⟨_, rfl, (sg_Rg _ _ _), (sg_F_t (sg_F_r [1088] σ) (sg_F_m (L := [1088]) hF3 rfl)), w⟩
    ·
      have w := w.2 h5
      refine wk_b tt_328 3 (pc' := 33) (ls' := [(0, .inr (.inr (.ref 88))), (1, .inl (a1))]) (st' := [.inl ((sg_g σ1 88 77))]) (σ' := σ1) rfl ?_
      rw [show (sg_g σ1 88 77) = (sg_g σ 88 77) from by rw [sg_F_g hF3 rfl]]
      exact wk_rI tt_328 rfl rfl ⟨_, rfl, (sg_Rg _ _ _), (sg_F_t (sg_F_r [1088] σ) (sg_F_m (L := [1088]) hF3 rfl)), w⟩
  ·
    have w := w.2 h4
    refine wk_b tt_328 2 (pc' := 33) (ls' := [(0, .inr (.inr (.ref 88))), (1, .inl (a1))]) (st' := [.inl ((-4))]) (σ' := σ1) rfl ?_
    exact wk_rI tt_328 rfl rfl ⟨_, rfl, (by decide), (sg_F_t (sg_F_r [1088] σ) (sg_F_m (L := [1088]) hF3 rfl)), w⟩
