/-! Conditions of the reference's methods, by program (39). -/
-- NestedVectorsModel.node
def V_node (σ : sg_S) (a1 : Int) (a2 : Int) (Q : Int → sg_S → Prop) : Prop := ∀ σ1, σ1 = (sg_w σ 88 0 (0)) → ((¬ (sg_g σ 88 28) = 0 → sg_R ((sg_g σ 88 8) - 1) ∧ ((¬ (v_in (a1) (0) (((sg_g σ 88 8) - 1))) = 0 → ((¬ a2 = 0 → ((¬ a2 = 1 → Q ((-2)) σ1) ∧ (a2 = 1 → (0 ≤ a1 ∧ a1 < 210) ∧ Q ((sg_g σ 101 (a1))) σ1))) ∧ (a2 = 0 → (0 ≤ a1 ∧ a1 < 210) ∧ Q ((sg_g σ 94 (a1))) σ1))) ∧ ((v_in (a1) (0) (((sg_g σ 88 8) - 1))) = 0 → Q ((-1)) σ1))) ∧ ((sg_g σ 88 28) = 0 → Q ((-4)) σ1))
set_option maxHeartbeats 4000000 in
set_option maxRecDepth 8000 in
theorem w_node (z : Value) (σ : sg_S) (a1 : Int) (a2 : Int) (Q : Int → sg_S → Prop) (ra1 : sg_R a1) (ra2 : sg_R a2) (w : V_node σ a1 a2 Q) : wx z 1 295 0 [(0, .inr (.inr (.ref 88))), (1, .inl (a1)), (2, .inl (a2))] [] σ (fun v σ' => ∃ q, v = some (.inl q) ∧ sg_R q ∧ sg_F [1088] σ σ' ∧ Q q σ') := by
  unfold V_node at w
  refine wk_b tt_295 3 (pc' := 5) (ls' := [(0, .inr (.inr (.ref 88))), (1, .inl (a1)), (2, .inl (a2))]) (st' := []) (σ' := (sg_w σ 88 0 (0))) rfl ?_
  generalize hs2 : (sg_w σ 88 0 (0)) = σ1
  have w := w σ1 hs2.symm
  have hF3 : sg_F [1088] σ σ1 := by rw [← hs2]; exact sg_F_w (sg_F_r _ _) rfl _
  refine wk_b tt_295 2 (pc' := 9) (ls' := [(0, .inr (.inr (.ref 88))), (1, .inl (a1)), (2, .inl (a2))]) (st' := [.inl ((sg_g σ1 88 28))]) (σ' := σ1) rfl ?_
  rw [show (sg_g σ1 88 28) = (sg_g σ 88 28) from by rw [sg_F_g hF3 rfl]]
  refine wk_if tt_295 (tgt := 15) rfl rfl (sg_Rg _ _ _) (fun (h4 : ¬ (sg_g σ 88 28) = 0) => ?_) (fun (h4 : (sg_g σ 88 28) = 0) => ?_)
  ·
    have w := w.1 h4
    obtain ⟨c5, w⟩ := w
    refine wk_b tt_295 8 (pc' := 25) (ls' := [(0, .inr (.inr (.ref 88))), (1, .inl (a1)), (2, .inl (a2))]) (st' := [.inr (.inl ((sg_n (((sg_g σ1 88 8) - 1))))), .inr (.inl (0)), .inr (.inl ((sg_n (a1))))]) (σ' := σ1) rfl ?_
    rw [show (sg_n (a1)) = a1 from by rw [sg_id ra1]]
    rw [show (sg_g σ1 88 8) = (sg_g σ 88 8) from by rw [sg_F_g hF3 rfl]]
    rw [show (sg_n (((sg_g σ 88 8) - 1))) = ((sg_g σ 88 8) - 1) from by rw [sg_id c5]]
    refine wk_callp tt_295 rfl rfl rfl rfl rfl tt_258 rfl (by decide) (w_in z σ1 (a1) (0) (((sg_g σ 88 8) - 1)) (sg_Rgl2 ra1) (by decide) (sg_Rgl2 c5) ) ?_
    refine wk_if tt_295 (tgt := 33) rfl rfl (sg_Rz (vz_in ..)) (fun (h6 : ¬ (v_in (a1) (0) (((sg_g σ 88 8) - 1))) = 0) => ?_) (fun (h6 : (v_in (a1) (0) (((sg_g σ 88 8) - 1))) = 0) => ?_)
    ·
      have w := w.1 h6
      refine wk_b tt_295 1 (pc' := 34) (ls' := [(0, .inr (.inr (.ref 88))), (1, .inl (a1)), (2, .inl (a2))]) (st' := [.inl (a2)]) (σ' := σ1) rfl ?_
      refine wk_if tt_295 (tgt := 46) rfl rfl ra2 (fun (h7 : ¬ a2 = 0) => ?_) (fun (h7 : a2 = 0) => ?_)
      ·
        have w := w.1 h7
        refine wk_b tt_295 2 (pc' := 48) (ls' := [(0, .inr (.inr (.ref 88))), (1, .inl (a1)), (2, .inl (a2))]) (st' := [.inl (1), .inl (a2)]) (σ' := σ1) rfl ?_
        refine wk_if2 tt_295 (tgt := 60) rfl rfl ra2 (by decide) (fun (h8 : ¬ a2 = 1) => ?_) (fun (h8 : a2 = 1) => ?_)
        ·
          have w := w.1 h8
          refine wk_b tt_295 1 (pc' := 62) (ls' := [(0, .inr (.inr (.ref 88))), (1, .inl (a1)), (2, .inl (a2))]) (st' := [.inl ((-2))]) (σ' := σ1) rfl ?_
          exact wk_rI tt_295 rfl rfl ⟨_, rfl, (by decide), (sg_F_t (sg_F_r [1088] σ) (sg_F_m (L := [1088]) hF3 rfl)), w⟩
        ·
          have w := w.2 h8
          refine wk_b tt_295 3 (pc' := 56) (ls' := [(0, .inr (.inr (.ref 88))), (1, .inl (a1)), (2, .inl (a2))]) (st' := [.inl (a1), .inr (.inr (.ref 101))]) (σ' := σ1) rfl ?_
          obtain ⟨c9, w⟩ := w
          refine wk_ia tt_295 rfl rfl c9.1 c9.2 ra1 ?_
          rw [show (sg_g σ1 101 (a1)) = (sg_g σ 101 (a1)) from by rw [sg_F_ga hF3 rfl]]
          refine wk_b tt_295 1 (pc' := 62) (ls' := [(0, .inr (.inr (.ref 88))), (1, .inl (a1)), (2, .inl (a2))]) (st' := [.inl ((sg_g σ 101 (a1)))]) (σ' := σ1) rfl ?_
          exact wk_rI tt_295 rfl rfl ⟨_, rfl, (sg_Rg _ _ _), (sg_F_t (sg_F_r [1088] σ) (sg_F_m (L := [1088]) hF3 rfl)), w⟩
      ·
        have w := w.2 h7
        refine wk_b tt_295 3 (pc' := 42) (ls' := [(0, .inr (.inr (.ref 88))), (1, .inl (a1)), (2, .inl (a2))]) (st' := [.inl (a1), .inr (.inr (.ref 94))]) (σ' := σ1) rfl ?_
        obtain ⟨c10, w⟩ := w
        refine wk_ia tt_295 rfl rfl c10.1 c10.2 ra1 ?_
        rw [show (sg_g σ1 94 (a1)) = (sg_g σ 94 (a1)) from by rw [sg_F_ga hF3 rfl]]
        refine wk_b tt_295 1 (pc' := 62) (ls' := [(0, .inr (.inr (.ref 88))), (1, .inl (a1)), (2, .inl (a2))]) (st' := [.inl ((sg_g σ 94 (a1)))]) (σ' := σ1) rfl ?_
        exact wk_rI tt_295 rfl rfl ⟨_, rfl, (sg_Rg _ _ _), (sg_F_t (sg_F_r [1088] σ) (sg_F_m (L := [1088]) hF3 rfl)), w⟩
    ·
      have w := w.2 h6
      refine wk_b tt_295 1 (pc' := 32) (ls' := [(0, .inr (.inr (.ref 88))), (1, .inl (a1)), (2, .inl (a2))]) (st' := [.inl ((-1))]) (σ' := σ1) rfl ?_
      exact wk_rI tt_295 rfl rfl ⟨_, rfl, (by decide), (sg_F_t (sg_F_r [1088] σ) (sg_F_m (L := [1088]) hF3 rfl)), w⟩
  ·
    have w := w.2 h4
    refine wk_b tt_295 1 (pc' := 14) (ls' := [(0, .inr (.inr (.ref 88))), (1, .inl (a1)), (2, .inl (a2))]) (st' := [.inl ((-4))]) (σ' := σ1) rfl ?_
    exact wk_rI tt_295 rfl rfl ⟨_, rfl, (by decide), (sg_F_t (sg_F_r [1088] σ) (sg_F_m (L := [1088]) hF3 rfl)), w⟩
-- NestedVectorsModel.readType
def V_readType (σ : sg_S) (Q : Int → sg_S → Prop) : Prop := (∃ (I4 : Nat → Int → sg_S → Prop) (X6 : Int → sg_S → Prop), (∃ n, I4 n (0) σ) ∧ (∀ (n14 : Nat) (v1 : Int) (σ2 : sg_S), sg_R v1 → sg_F [8088, 30088, 31088] σ σ2 → I4 n14 v1 σ2 → p_isSignNow σ2 (91) ∧ (((v_isSignNow σ2 (91)) = 0 → X6 (v1) σ2) ∧ (¬ (v_isSignNow σ2 (91)) = 0 → ((¬ (sg_g σ2 88 29) = 0 → X6 (v1) σ2) ∧ ((sg_g σ2 88 29) = 0 → V_want σ2 (1) (fun σ53 => sg_F [8088, 30088, 31088] σ2 σ53 → sg_R (v1 + 1) ∧ (∃ m, m < n14 ∧ I4 m ((v1 + 1)) σ53))))))) ∧ (∀ (v1 : Int) (σ2 : sg_S), sg_R v1 → sg_F [8088, 30088, 31088] σ σ2 → X6 v1 σ2 → p_isWord σ2 (6909556) ∧ V_want σ2 ((v_isWord σ2 (6909556))) (fun σ18 => sg_F [8088, 30088, 31088] σ2 σ18 → (∃ (I26 : Nat → Int → sg_S → Prop) (X28 : sg_S → Prop), (∃ n, I26 n (0) σ18) ∧ (∀ (n36 : Nat) (v23 : Int) (σ24 : sg_S), sg_R v23 → sg_F [8088, 30088, 31088] σ18 σ24 → I26 n36 v23 σ24 → ((v1 ≤ v23 → X28 σ24) ∧ (v23 < v1 → ((¬ (sg_g σ24 88 29) = 0 → X28 σ24) ∧ ((sg_g σ24 88 29) = 0 → p_isSignNow σ24 (93) ∧ V_want σ24 ((v_isSignNow σ24 (93))) (fun σ42 => sg_F [8088, 30088, 31088] σ24 σ42 → sg_R (v23 + 1) ∧ (∃ m, m < n36 ∧ I26 m ((v23 + 1)) σ42))))))) ∧ (∀ (σ24 : sg_S), sg_F [8088, 30088, 31088] σ18 σ24 → X28 σ24 → Q (v1) σ24)))))
set_option maxHeartbeats 4000000 in
set_option maxRecDepth 8000 in
theorem w_readType (z : Value) (σ : sg_S) (Q : Int → sg_S → Prop)  (w : V_readType σ  Q) : wx z 4 319 0 [(0, .inr (.inr (.ref 88)))] [] σ (fun v σ' => ∃ q, v = some (.inl q) ∧ sg_R q ∧ sg_F [8088, 30088, 31088] σ σ' ∧ Q q σ') := by
  unfold V_readType at w
  refine wk_b tt_319 2 (pc' := 2) (ls' := [(1, .inl (0)), (0, .inr (.inr (.ref 88)))]) (st' := []) (σ' := σ) rfl ?_
  obtain ⟨I4, X6, ⟨μ5, w11⟩, w12, w13⟩ := w
  have ex15 : ∀ (v1 : Int) (σ2 : sg_S), sg_R v1 → sg_F [8088, 30088, 31088] σ σ2 → X6 v1 σ2 → wx z 4 319 29 [(0, .inr (.inr (.ref 88))), (1, .inl (v1))] [] σ2 (fun v σ' => ∃ q, v = some (.inl q) ∧ sg_R q ∧ sg_F [8088, 30088, 31088] σ σ' ∧ Q q σ') := by
    intro v1 σ2 r7 hF3 w
    have w := w13 v1 σ2 r7 hF3 w
    refine wk_b tt_319 3 (pc' := 34) (ls' := [(0, .inr (.inr (.ref 88))), (1, .inl (v1))]) (st' := [.inr (.inl (6909556)), .inr (.inr (.ref 88)), .inr (.inr (.ref 88))]) (σ' := σ2) rfl ?_
    obtain ⟨c16, w⟩ := w
    refine wk_callp tt_319 rfl rfl rfl rfl rfl tt_269 rfl (by decide) (w_isWord z σ2 (6909556) (by decide) c16) ?_
    refine wk_call tt_319 rfl rfl rfl rfl rfl tt_334 rfl (by decide) (w_want z σ2 ((v_isWord σ2 (6909556))) _ (sg_Rz (vz_isWord ..)) w) (fun u22 σ18 hq20 => ?_)
    obtain ⟨rfl, hF19, w⟩ := hq20
    have w := w hF19
    refine wk_b tt_319 2 (pc' := 42) (ls' := [(2, .inl (0)), (0, .inr (.inr (.ref 88))), (1, .inl (v1))]) (st' := []) (σ' := σ18) rfl ?_
    obtain ⟨I26, X28, ⟨μ27, w33⟩, w34, w35⟩ := w
    have ex37 : ∀ (σ24 : sg_S), sg_F [8088, 30088, 31088] σ18 σ24 → X28 σ24 → wx z 4 319 70 [(1, .inl (v1))] [] σ24 (fun v σ' => ∃ q, v = some (.inl q) ∧ sg_R q ∧ sg_F [8088, 30088, 31088] σ σ' ∧ Q q σ') := by
      intro σ24 hF25 w
      have w := w35 σ24 hF25 w
      refine wk_b tt_319 1 (pc' := 71) (ls' := [(1, .inl (v1))]) (st' := [.inl (v1)]) (σ' := σ24) rfl ?_
      exact wk_rI tt_319 rfl rfl ⟨_, rfl, r7, (sg_F_t (sg_F_t (sg_F_t (sg_F_r [8088, 30088, 31088] σ) (sg_F_m (L := [8088, 30088, 31088]) hF3 rfl)) (sg_F_m (L := [8088, 30088, 31088]) hF19 rfl)) (sg_F_m (L := [8088, 30088, 31088]) hF25 rfl)), w⟩
    have lp32 : ∀ (n36 : Nat) (v23 : Int) (σ24 : sg_S), sg_R v23 → sg_F [8088, 30088, 31088] σ18 σ24 → I26 n36 v23 σ24 → wx z 4 319 42 [(0, .inr (.inr (.ref 88))), (1, .inl (v1)), (2, .inl (v23))] [] σ24 (fun v σ' => ∃ q, v = some (.inl q) ∧ sg_R q ∧ sg_F [8088, 30088, 31088] σ σ' ∧ Q q σ') := by
      intro n36
      induction n36 using Nat.strongRecOn with
      | _ n36 ih30 =>
        intro v23 σ24 r29 hF25 w
        have w := w34 n36 v23 σ24 r29 hF25 w
        refine wk_b tt_319 2 (pc' := 44) (ls' := [(0, .inr (.inr (.ref 88))), (1, .inl (v1)), (2, .inl (v23))]) (st' := [.inl (v1), .inl (v23)]) (σ' := σ24) rfl ?_
        refine wk_if2 tt_319 (tgt := 70) rfl rfl r29 r7 (fun (h38 : v1 ≤ v23) => ?_) (fun (h38 : v23 < v1) => ?_)
        ·
          have w := w.1 h38
          exact wk_ls [(1, .inl (v1))] rfl ⟨rfl, trivial⟩ (ex37  σ24  (sg_F_t (sg_F_r [8088, 30088, 31088] σ18) (sg_F_m (L := [8088, 30088, 31088]) hF25 rfl)) w)
        ·
          have w := w.2 h38
          refine wk_b tt_319 2 (pc' := 51) (ls' := [(0, .inr (.inr (.ref 88))), (1, .inl (v1)), (2, .inl (v23))]) (st' := [.inl ((sg_g σ24 88 29))]) (σ' := σ24) rfl ?_
          refine wk_if tt_319 (tgt := 70) rfl rfl (sg_Rg _ _ _) (fun (h39 : ¬ (sg_g σ24 88 29) = 0) => ?_) (fun (h39 : (sg_g σ24 88 29) = 0) => ?_)
          ·
            have w := w.1 h39
            exact wk_ls [(1, .inl (v1))] rfl ⟨rfl, trivial⟩ (ex37  σ24  (sg_F_t (sg_F_r [8088, 30088, 31088] σ18) (sg_F_m (L := [8088, 30088, 31088]) hF25 rfl)) w)
          ·
            have w := w.2 h39
            refine wk_b tt_319 3 (pc' := 58) (ls' := [(0, .inr (.inr (.ref 88))), (1, .inl (v1)), (2, .inl (v23))]) (st' := [.inl (93), .inr (.inr (.ref 88)), .inr (.inr (.ref 88))]) (σ' := σ24) rfl ?_
            obtain ⟨c40, w⟩ := w
            refine wk_callp tt_319 rfl rfl rfl rfl rfl tt_268 rfl (by decide) (w_isSignNow z σ24 (93) (by decide) c40) ?_
            refine wk_call tt_319 rfl rfl rfl rfl rfl tt_334 rfl (by decide) (w_want z σ24 ((v_isSignNow σ24 (93))) _ (sg_Rz (vz_isSignNow ..)) w) (fun u46 σ42 hq44 => ?_)
            obtain ⟨rfl, hF43, w⟩ := hq44
            have w := w hF43
            obtain ⟨c47, w⟩ := w
            refine wk_b tt_319 2 (pc' := 42) (ls' := [(2, .inl ((v23 + 1))), (0, .inr (.inr (.ref 88))), (1, .inl (v1))]) (st' := []) (σ' := σ42) rfl ?_
            obtain ⟨m48, hm48, w⟩ := w
            exact wk_ls [(0, .inr (.inr (.ref 88))), (1, .inl (v1)), (2, .inl ((v23 + 1)))] rfl ⟨rfl, rfl, rfl, trivial⟩ (ih30 m48 hm48 ((v23 + 1)) σ42 c47 (sg_F_t (sg_F_t (sg_F_r [8088, 30088, 31088] σ18) (sg_F_m (L := [8088, 30088, 31088]) hF25 rfl)) (sg_F_m (L := [8088, 30088, 31088]) hF43 rfl)) w)
    exact wk_ls [(0, .inr (.inr (.ref 88))), (1, .inl (v1)), (2, .inl (0))] rfl ⟨rfl, rfl, rfl, trivial⟩ (lp32 μ27 (0) σ18 (by decide) (sg_F_r _ _) w33)
  have lp10 : ∀ (n14 : Nat) (v1 : Int) (σ2 : sg_S), sg_R v1 → sg_F [8088, 30088, 31088] σ σ2 → I4 n14 v1 σ2 → wx z 4 319 2 [(0, .inr (.inr (.ref 88))), (1, .inl (v1))] [] σ2 (fun v σ' => ∃ q, v = some (.inl q) ∧ sg_R q ∧ sg_F [8088, 30088, 31088] σ σ' ∧ Q q σ') := by
    intro n14
    induction n14 using Nat.strongRecOn with
    | _ n14 ih8 =>
      intro v1 σ2 r7 hF3 w
      have w := w12 n14 v1 σ2 r7 hF3 w
      refine wk_b tt_319 2 (pc' := 5) (ls' := [(0, .inr (.inr (.ref 88))), (1, .inl (v1))]) (st' := [.inl (91), .inr (.inr (.ref 88))]) (σ' := σ2) rfl ?_
      obtain ⟨c49, w⟩ := w
      refine wk_callp tt_319 rfl rfl rfl rfl rfl tt_268 rfl (by decide) (w_isSignNow z σ2 (91) (by decide) c49) ?_
      refine wk_if tt_319 (tgt := 29) rfl rfl (sg_Rz (vz_isSignNow ..)) (fun (h50 : (v_isSignNow σ2 (91)) = 0) => ?_) (fun (h50 : ¬ (v_isSignNow σ2 (91)) = 0) => ?_)
      ·
        have w := w.1 h50
        exact wk_ls [(0, .inr (.inr (.ref 88))), (1, .inl (v1))] rfl ⟨rfl, rfl, trivial⟩ (ex15 (v1) σ2 r7 (sg_F_t (sg_F_r [8088, 30088, 31088] σ) (sg_F_m (L := [8088, 30088, 31088]) hF3 rfl)) w)
      ·
        have w := w.2 h50
        refine wk_b tt_319 2 (pc' := 15) (ls' := [(0, .inr (.inr (.ref 88))), (1, .inl (v1))]) (st' := [.inl ((sg_g σ2 88 29))]) (σ' := σ2) rfl ?_
        refine wk_if tt_319 (tgt := 29) rfl rfl (sg_Rg _ _ _) (fun (h51 : ¬ (sg_g σ2 88 29) = 0) => ?_) (fun (h51 : (sg_g σ2 88 29) = 0) => ?_)
        ·
          have w := w.1 h51
          exact wk_ls [(0, .inr (.inr (.ref 88))), (1, .inl (v1))] rfl ⟨rfl, rfl, trivial⟩ (ex15 (v1) σ2 r7 (sg_F_t (sg_F_r [8088, 30088, 31088] σ) (sg_F_m (L := [8088, 30088, 31088]) hF3 rfl)) w)
        ·
          have w := w.2 h51
          refine wk_b tt_319 2 (pc' := 20) (ls' := [(0, .inr (.inr (.ref 88))), (1, .inl (v1))]) (st' := [.inl (1), .inr (.inr (.ref 88))]) (σ' := σ2) rfl ?_
          refine wk_call tt_319 rfl rfl rfl rfl rfl tt_334 rfl (by decide) (w_want z σ2 (1) _ (by decide) w) (fun u57 σ53 hq55 => ?_)
          obtain ⟨rfl, hF54, w⟩ := hq55
          have w := w hF54
          obtain ⟨c58, w⟩ := w
          refine wk_b tt_319 2 (pc' := 2) (ls' := [(1, .inl ((v1 + 1))), (0, .inr (.inr (.ref 88)))]) (st' := []) (σ' := σ53) rfl ?_
          obtain ⟨m59, hm59, w⟩ := w
          exact wk_ls [(0, .inr (.inr (.ref 88))), (1, .inl ((v1 + 1)))] rfl ⟨rfl, rfl, trivial⟩ (ih8 m59 hm59 ((v1 + 1)) σ53 c58 (sg_F_t (sg_F_t (sg_F_r [8088, 30088, 31088] σ) (sg_F_m (L := [8088, 30088, 31088]) hF3 rfl)) (sg_F_m (L := [8088, 30088, 31088]) hF54 rfl)) w)
  exact wk_ls [(0, .inr (.inr (.ref 88))), (1, .inl (0))] rfl ⟨rfl, rfl, trivial⟩ (lp10 μ5 (0) σ (by decide) (sg_F_r _ _) w11)
-- NestedVectorsModel.readParams
def V_readParams (σ : sg_S) (a1 : Int) (Q : sg_S → Prop) : Prop := p_isSignNow σ (41) ∧ ∀ v4 : Int, v4 = (if ¬ (v_isSignNow σ (41)) = 0 then (0 : Int) else (1 : Int)) → sg_R v4 → (∃ (I10 : Nat → Int → sg_S → Prop) (X12 : sg_S → Prop), (∃ n, I10 n (v4) σ) ∧ (∀ (n20 : Nat) (v7 : Int) (σ8 : sg_S), sg_R v7 → sg_F [106, 107, 108, 109, 8088, 30088, 31088] σ σ8 → I10 n20 v7 σ8 → ((v7 = 0 → X12 σ8) ∧ (¬ v7 = 0 → ((¬ (sg_g σ8 88 29) = 0 → X12 σ8) ∧ ((sg_g σ8 88 29) = 0 → (0 ≤ a1 ∧ a1 < 12) ∧ ((¬ (sg_g σ8 106 (a1)) = 6 → sg_R (6 * a1) ∧ sg_R ((6 * a1) + (sg_g σ8 106 (a1))) ∧ (0 ≤ (sg_g σ8 88 7) ∧ (sg_g σ8 88 7) < 1210) ∧ (0 ≤ ((6 * a1) + (sg_g σ8 106 (a1))) ∧ ((6 * a1) + (sg_g σ8 106 (a1))) < 72) ∧ ∀ σ30, σ30 = (sg_wl σ8 107 (((6 * a1) + (sg_g σ8 106 (a1)))) ((sg_gl σ 92 ((sg_g σ8 88 7))))) → ∀ σ33, σ33 = (sg_w σ30 108 (((6 * a1) + (sg_g σ8 106 (a1)))) ((sg_g σ 91 ((sg_g σ8 88 7))))) → p_isName σ8  ∧ V_want σ33 ((v_isName σ8)) (fun σ38 => sg_F [8088, 30088, 31088] σ33 σ38 → (∃ P45 : sg_S → Prop, ((¬ (sg_g σ38 88 29) = 0 → P45 σ38) ∧ ((sg_g σ38 88 29) = 0 → p_isSignNow σ38 (58) ∧ V_want σ38 ((v_isSignNow σ38 (58))) (fun σ90 => sg_F [8088, 30088, 31088] σ38 σ90 → P45 σ90))) ∧ (∀ (σ46 : sg_S), sg_F [8088, 30088, 31088] σ38 σ46 → P45 σ46 → (∃ P51 : sg_S → Prop, ((¬ (sg_g σ46 88 29) = 0 → P51 σ46) ∧ ((sg_g σ46 88 29) = 0 → V_readType σ46  (fun q75 σ76 => sg_R q75 → sg_F [8088, 30088, 31088] σ46 σ76 → ∀ σ81, σ81 = (sg_w σ76 109 (((6 * a1) + (sg_g σ8 106 (a1)))) (q75)) → sg_R ((sg_g σ8 106 (a1)) + 1) ∧ ∀ σ85, σ85 = (sg_w σ81 106 (a1) (((sg_g σ8 106 (a1)) + 1))) → P51 σ85))) ∧ (∀ (σ52 : sg_S), sg_F [106, 109, 8088, 30088, 31088] σ46 σ52 → P51 σ52 → ((¬ (sg_g σ52 88 29) = 0 → True) ∧ ((sg_g σ52 88 29) = 0 → p_isSignNow σ52 (44) ∧ (((v_isSignNow σ52 (44)) = 0 → True) ∧ (¬ (v_isSignNow σ52 (44)) = 0 → True)))) ∧ ∀ v57 : Int, v57 = (if ¬ (sg_g σ52 88 29) = 0 then (0 : Int) else (if (v_isSignNow σ52 (44)) = 0 then (0 : Int) else (1 : Int))) → sg_R v57 → (∃ P62 : sg_S → Prop, ((v57 = 0 → P62 σ52) ∧ (¬ v57 = 0 → V_want σ52 (1) (fun σ68 => sg_F [8088, 30088, 31088] σ52 σ68 → P62 σ68))) ∧ (∀ (σ63 : sg_S), sg_F [8088, 30088, 31088] σ52 σ63 → P62 σ63 → (∃ m, m < n20 ∧ I10 m (v57) σ63))))))))) ∧ ((sg_g σ8 106 (a1)) = 6 → (0 ≤ (sg_g σ8 88 7) ∧ (sg_g σ8 88 7) < 1210) ∧ V_wrong σ8 (1) ((sg_g σ 91 ((sg_g σ8 88 7)))) (fun σ97 => sg_F [30088, 31088] σ8 σ97 → Q σ97)))))))) ∧ (∀ (σ8 : sg_S), sg_F [106, 107, 108, 109, 8088, 30088, 31088] σ σ8 → X12 σ8 → Q σ8))
set_option maxHeartbeats 4000000 in
set_option maxRecDepth 8000 in
theorem w_readParams (z : Value) (σ : sg_S) (a1 : Int) (Q : sg_S → Prop) (ra1 : sg_R a1) (w : V_readParams σ a1 Q) : wx z 6 318 0 [(0, .inr (.inr (.ref 88))), (1, .inl (a1))] [] σ (fun v σ' => v = none ∧ sg_F [106, 107, 108, 109, 8088, 30088, 31088] σ σ' ∧ Q σ') := by
  unfold V_readParams at w
  refine wk_b tt_318 2 (pc' := 3) (ls' := [(0, .inr (.inr (.ref 88))), (1, .inl (a1))]) (st' := [.inl (41), .inr (.inr (.ref 88))]) (σ' := σ) rfl ?_
  obtain ⟨c1, w⟩ := w
  refine wk_callp tt_318 rfl rfl rfl rfl rfl tt_268 rfl (by decide) (w_isSignNow z σ (41) (by decide) c1) ?_
  have jn3 : ∀ v4 : Int, v4 = (if ¬ (v_isSignNow σ (41)) = 0 then (0 : Int) else (1 : Int)) → sg_R v4 → wx z 6 318 14 [(0, .inr (.inr (.ref 88))), (1, .inl (a1))] [.inl (v4)] σ (fun v σ' => v = none ∧ sg_F [106, 107, 108, 109, 8088, 30088, 31088] σ σ' ∧ Q σ') := by
    intro v4 e6 r5
    have w := w v4 e6 r5
    refine wk_b tt_318 1 (pc' := 15) (ls' := [(2, .inl (v4)), (0, .inr (.inr (.ref 88))), (1, .inl (a1))]) (st' := []) (σ' := σ) rfl ?_
    obtain ⟨I10, X12, ⟨μ11, w17⟩, w18, w19⟩ := w
    have ex21 : ∀ (σ8 : sg_S), sg_F [106, 107, 108, 109, 8088, 30088, 31088] σ σ8 → X12 σ8 → wx z 6 318 180 [] [] σ8 (fun v σ' => v = none ∧ sg_F [106, 107, 108, 109, 8088, 30088, 31088] σ σ' ∧ Q σ') := by
      intro σ8 hF9 w
      have w := w19 σ8 hF9 w
      exact wk_rV tt_318 rfl rfl ⟨rfl, (sg_F_t (sg_F_r [106, 107, 108, 109, 8088, 30088, 31088] σ) (sg_F_m (L := [106, 107, 108, 109, 8088, 30088, 31088]) hF9 rfl)), w⟩
    have lp16 : ∀ (n20 : Nat) (v7 : Int) (σ8 : sg_S), sg_R v7 → sg_F [106, 107, 108, 109, 8088, 30088, 31088] σ σ8 → I10 n20 v7 σ8 → wx z 6 318 15 [(0, .inr (.inr (.ref 88))), (1, .inl (a1)), (2, .inl (v7))] [] σ8 (fun v σ' => v = none ∧ sg_F [106, 107, 108, 109, 8088, 30088, 31088] σ σ' ∧ Q σ') := by
      intro n20
      induction n20 using Nat.strongRecOn with
      | _ n20 ih14 =>
        intro v7 σ8 r13 hF9 w
        have w := w18 n20 v7 σ8 r13 hF9 w
        refine wk_b tt_318 1 (pc' := 16) (ls' := [(0, .inr (.inr (.ref 88))), (1, .inl (a1)), (2, .inl (v7))]) (st' := [.inl (v7)]) (σ' := σ8) rfl ?_
        refine wk_if tt_318 (tgt := 180) rfl rfl r13 (fun (h22 : v7 = 0) => ?_) (fun (h22 : ¬ v7 = 0) => ?_)
        ·
          have w := w.1 h22
          exact wk_ls [] rfl trivial (ex21  σ8  (sg_F_t (sg_F_r [106, 107, 108, 109, 8088, 30088, 31088] σ) (sg_F_m (L := [106, 107, 108, 109, 8088, 30088, 31088]) hF9 rfl)) w)
        ·
          have w := w.2 h22
          refine wk_b tt_318 2 (pc' := 23) (ls' := [(0, .inr (.inr (.ref 88))), (1, .inl (a1)), (2, .inl (v7))]) (st' := [.inl ((sg_g σ8 88 29))]) (σ' := σ8) rfl ?_
          refine wk_if tt_318 (tgt := 180) rfl rfl (sg_Rg _ _ _) (fun (h23 : ¬ (sg_g σ8 88 29) = 0) => ?_) (fun (h23 : (sg_g σ8 88 29) = 0) => ?_)
          ·
            have w := w.1 h23
            exact wk_ls [] rfl trivial (ex21  σ8  (sg_F_t (sg_F_r [106, 107, 108, 109, 8088, 30088, 31088] σ) (sg_F_m (L := [106, 107, 108, 109, 8088, 30088, 31088]) hF9 rfl)) w)
          ·
            have w := w.2 h23
            refine wk_b tt_318 3 (pc' := 31) (ls' := [(0, .inr (.inr (.ref 88))), (1, .inl (a1)), (2, .inl (v7))]) (st' := [.inl (a1), .inr (.inr (.ref 106))]) (σ' := σ8) rfl ?_
            obtain ⟨c24, w⟩ := w
            refine wk_ia tt_318 rfl rfl c24.1 c24.2 ra1 ?_
            refine wk_b tt_318 1 (pc' := 34) (ls' := [(0, .inr (.inr (.ref 88))), (1, .inl (a1)), (2, .inl (v7))]) (st' := [.inl (6), .inl ((sg_g σ8 106 (a1)))]) (σ' := σ8) rfl ?_
            refine wk_if2 tt_318 (tgt := 52) rfl rfl (sg_Rg _ _ _) (by decide) (fun (h25 : ¬ (sg_g σ8 106 (a1)) = 6) => ?_) (fun (h25 : (sg_g σ8 106 (a1)) = 6) => ?_)
            ·
              have w := w.1 h25
              obtain ⟨c26, w⟩ := w
              refine wk_b tt_318 6 (pc' := 61) (ls' := [(0, .inr (.inr (.ref 88))), (1, .inl (a1)), (2, .inl (v7))]) (st' := [.inl (a1), .inr (.inr (.ref 106)), .inl ((6 * a1))]) (σ' := σ8) rfl ?_
              refine wk_ia tt_318 rfl rfl c24.1 c24.2 ra1 ?_
              obtain ⟨c27, w⟩ := w
              refine wk_b tt_318 9 (pc' := 77) (ls' := [(3, .inl (((6 * a1) + (sg_g σ8 106 (a1))))), (0, .inr (.inr (.ref 88))), (1, .inl (a1)), (2, .inl (v7))]) (st' := [.inl ((sg_g σ8 88 7)), .inr (.inr (.ref 92)), .inl (((6 * a1) + (sg_g σ8 106 (a1)))), .inr (.inr (.ref 107))]) (σ' := σ8) rfl ?_
              obtain ⟨c28, w⟩ := w
              refine wk_la tt_318 rfl rfl c28.1 c28.2 (sg_Rg _ _ _) ?_
              rw [show (sg_gl σ8 92 ((sg_g σ8 88 7))) = (sg_gl σ 92 ((sg_g σ8 88 7))) from by rw [sg_F_gal hF9 rfl]]
              obtain ⟨c29, w⟩ := w
              refine wk_lS tt_318 rfl rfl c29.1 c29.2 c27 ?_
              generalize hs31 : (sg_wl σ8 107 (((6 * a1) + (sg_g σ8 106 (a1)))) ((sg_gl σ 92 ((sg_g σ8 88 7))))) = σ30
              have w := w σ30 hs31.symm
              have hF32 : sg_F [107] σ8 σ30 := by rw [← hs31]; exact sg_F_wl (sg_F_r _ _) rfl _
              refine wk_b tt_318 7 (pc' := 92) (ls' := [(3, .inl (((6 * a1) + (sg_g σ8 106 (a1))))), (0, .inr (.inr (.ref 88))), (1, .inl (a1)), (2, .inl (v7))]) (st' := [.inl ((sg_g σ30 88 7)), .inr (.inr (.ref 91)), .inl (((6 * a1) + (sg_g σ8 106 (a1)))), .inr (.inr (.ref 108))]) (σ' := σ30) rfl ?_
              rw [show (sg_g σ30 88 7) = (sg_g σ8 88 7) from by rw [sg_F_ga hF32 rfl]]
              refine wk_ia tt_318 rfl rfl c28.1 c28.2 (sg_Rg _ _ _) ?_
              rw [show (sg_g σ30 91 ((sg_g σ8 88 7))) = (sg_g σ 91 ((sg_g σ8 88 7))) from by rw [sg_F_ga hF32 rfl, sg_F_ga hF9 rfl]]
              refine wk_is tt_318 rfl rfl c29.1 c29.2 c27 ?_
              generalize hs34 : (sg_w σ30 108 (((6 * a1) + (sg_g σ8 106 (a1)))) ((sg_g σ 91 ((sg_g σ8 88 7))))) = σ33
              have w := w σ33 hs34.symm
              have hF35 : sg_F [108] σ30 σ33 := by rw [← hs34]; exact sg_F_w (sg_F_r _ _) rfl _
              refine wk_b tt_318 2 (pc' := 96) (ls' := [(3, .inl (((6 * a1) + (sg_g σ8 106 (a1))))), (0, .inr (.inr (.ref 88))), (1, .inl (a1)), (2, .inl (v7))]) (st' := [.inr (.inr (.ref 88)), .inr (.inr (.ref 88))]) (σ' := σ33) rfl ?_
              obtain ⟨c36, w⟩ := w
              have c36 : p_isName σ33  := by
                rw [pF_isName hF35 rfl rfl rfl, pF_isName hF32 rfl rfl rfl]; exact c36
              refine wk_callp tt_318 rfl rfl rfl rfl rfl tt_264 rfl (by decide) (w_isName z σ33   c36) ?_
              rw [vF_isName hF35 rfl rfl rfl, vF_isName hF32 rfl rfl rfl]
              refine wk_call tt_318 rfl rfl rfl rfl rfl tt_334 rfl (by decide) (w_want z σ33 ((v_isName σ8)) _ (sg_Rz (vz_isName ..)) w) (fun u42 σ38 hq40 => ?_)
              obtain ⟨rfl, hF39, w⟩ := hq40
              have w := w hF39
              refine wk_b tt_318 2 (pc' := 106) (ls' := [(3, .inl (((6 * a1) + (sg_g σ8 106 (a1))))), (0, .inr (.inr (.ref 88))), (1, .inl (a1)), (2, .inl (v7))]) (st' := [.inl ((sg_g σ38 88 29))]) (σ' := σ38) rfl ?_
              obtain ⟨P45, w, w48⟩ := w
              have jn44 : ∀ (σ46 : sg_S), sg_F [8088, 30088, 31088] σ38 σ46 → P45 σ46 → wx z 6 318 119 [(0, .inr (.inr (.ref 88))), (1, .inl (a1)), (3, .inl (((6 * a1) + (sg_g σ8 106 (a1)))))] [] σ46 (fun v σ' => v = none ∧ sg_F [106, 107, 108, 109, 8088, 30088, 31088] σ σ' ∧ Q σ') := by
                intro σ46 hF47 w
                have w := w48 σ46 hF47 w
                refine wk_b tt_318 2 (pc' := 123) (ls' := [(0, .inr (.inr (.ref 88))), (1, .inl (a1)), (3, .inl (((6 * a1) + (sg_g σ8 106 (a1)))))]) (st' := [.inl ((sg_g σ46 88 29))]) (σ' := σ46) rfl ?_
                obtain ⟨P51, w, w54⟩ := w
                have jn50 : ∀ (σ52 : sg_S), sg_F [106, 109, 8088, 30088, 31088] σ46 σ52 → P51 σ52 → wx z 6 318 146 [(0, .inr (.inr (.ref 88))), (1, .inl (a1))] [] σ52 (fun v σ' => v = none ∧ sg_F [106, 107, 108, 109, 8088, 30088, 31088] σ σ' ∧ Q σ') := by
                  intro σ52 hF53 w
                  have w := w54 σ52 hF53 w
                  refine wk_b tt_318 2 (pc' := 150) (ls' := [(0, .inr (.inr (.ref 88))), (1, .inl (a1))]) (st' := [.inl ((sg_g σ52 88 29))]) (σ' := σ52) rfl ?_
                  obtain ⟨wp, w⟩ := w
                  have jn56 : ∀ v57 : Int, v57 = (if ¬ (sg_g σ52 88 29) = 0 then (0 : Int) else (if (v_isSignNow σ52 (44)) = 0 then (0 : Int) else (1 : Int))) → sg_R v57 → wx z 6 318 167 [(0, .inr (.inr (.ref 88))), (1, .inl (a1))] [.inl (v57)] σ52 (fun v σ' => v = none ∧ sg_F [106, 107, 108, 109, 8088, 30088, 31088] σ σ' ∧ Q σ') := by
                    intro v57 e59 r58
                    have w := w v57 e59 r58
                    refine wk_b tt_318 2 (pc' := 169) (ls' := [(2, .inl (v57)), (0, .inr (.inr (.ref 88))), (1, .inl (a1))]) (st' := [.inl (v57)]) (σ' := σ52) rfl ?_
                    obtain ⟨P62, w, w65⟩ := w
                    have jn61 : ∀ (σ63 : sg_S), sg_F [8088, 30088, 31088] σ52 σ63 → P62 σ63 → wx z 6 318 177 [(0, .inr (.inr (.ref 88))), (1, .inl (a1)), (2, .inl (v57))] [] σ63 (fun v σ' => v = none ∧ sg_F [106, 107, 108, 109, 8088, 30088, 31088] σ σ' ∧ Q σ') := by
                      intro σ63 hF64 w
                      have w := w65 σ63 hF64 w
                      refine wk_b tt_318 1 (pc' := 15) (ls' := [(0, .inr (.inr (.ref 88))), (1, .inl (a1)), (2, .inl (v57))]) (st' := []) (σ' := σ63) rfl ?_
                      obtain ⟨m66, hm66, w⟩ := w
                      exact wk_ls [(0, .inr (.inr (.ref 88))), (1, .inl (a1)), (2, .inl (v57))] rfl ⟨rfl, rfl, rfl, trivial⟩ (ih14 m66 hm66 (v57) σ63 r58 (sg_F_t (sg_F_t (sg_F_t (sg_F_t (sg_F_t (sg_F_t (sg_F_t (sg_F_r [106, 107, 108, 109, 8088, 30088, 31088] σ) (sg_F_m (L := [106, 107, 108, 109, 8088, 30088, 31088]) hF9 rfl)) (sg_F_m (L := [106, 107, 108, 109, 8088, 30088, 31088]) hF32 rfl)) (sg_F_m (L := [106, 107, 108, 109, 8088, 30088, 31088]) hF35 rfl)) (sg_F_m (L := [106, 107, 108, 109, 8088, 30088, 31088]) hF39 rfl)) (sg_F_m (L := [106, 107, 108, 109, 8088, 30088, 31088]) hF47 rfl)) (sg_F_m (L := [106, 107, 108, 109, 8088, 30088, 31088]) hF53 rfl)) (sg_F_m (L := [106, 107, 108, 109, 8088, 30088, 31088]) hF64 rfl)) w)
                    refine wk_if tt_318 (tgt := 177) rfl rfl r58 (fun (h60 : v57 = 0) => ?_) (fun (h60 : ¬ v57 = 0) => ?_)
                    ·
                      have w := w.1 h60
                      exact wk_ls [(0, .inr (.inr (.ref 88))), (1, .inl (a1)), (2, .inl (v57))] rfl ⟨rfl, rfl, rfl, trivial⟩ (jn61 σ52 (sg_F_r [8088, 30088, 31088] σ52) w)
                    ·
                      have w := w.2 h60
                      refine wk_b tt_318 2 (pc' := 174) (ls' := [(2, .inl (v57)), (0, .inr (.inr (.ref 88))), (1, .inl (a1))]) (st' := [.inl (1), .inr (.inr (.ref 88))]) (σ' := σ52) rfl ?_
                      refine wk_call tt_318 rfl rfl rfl rfl rfl tt_334 rfl (by decide) (w_want z σ52 (1) _ (by decide) w) (fun u72 σ68 hq70 => ?_)
                      obtain ⟨rfl, hF69, w⟩ := hq70
                      have w := w hF69
                      exact wk_ls [(0, .inr (.inr (.ref 88))), (1, .inl (a1)), (2, .inl (v57))] rfl ⟨rfl, rfl, rfl, trivial⟩ (jn61 σ68 (sg_F_t (sg_F_r [8088, 30088, 31088] σ52) (sg_F_m (L := [8088, 30088, 31088]) hF69 rfl)) w)
                  have w := wp
                  refine wk_if tt_318 (tgt := 166) rfl rfl (sg_Rg _ _ _) (fun (h55 : ¬ (sg_g σ52 88 29) = 0) => ?_) (fun (h55 : (sg_g σ52 88 29) = 0) => ?_)
                  ·
                    have w := w.1 h55
                    refine wk_b tt_318 1 (pc' := 167) (ls' := [(0, .inr (.inr (.ref 88))), (1, .inl (a1))]) (st' := [.inl (0)]) (σ' := σ52) rfl ?_
                    exact wk_ls [(0, .inr (.inr (.ref 88))), (1, .inl (a1))] rfl ⟨rfl, rfl, trivial⟩ (jn56 (0) (by simp only [if_pos h55]) (by decide))
                  ·
                    have w := w.2 h55
                    refine wk_b tt_318 2 (pc' := 156) (ls' := [(0, .inr (.inr (.ref 88))), (1, .inl (a1))]) (st' := [.inl (44), .inr (.inr (.ref 88))]) (σ' := σ52) rfl ?_
                    obtain ⟨c73, w⟩ := w
                    refine wk_callp tt_318 rfl rfl rfl rfl rfl tt_268 rfl (by decide) (w_isSignNow z σ52 (44) (by decide) c73) ?_
                    refine wk_if tt_318 (tgt := 166) rfl rfl (sg_Rz (vz_isSignNow ..)) (fun (h74 : (v_isSignNow σ52 (44)) = 0) => ?_) (fun (h74 : ¬ (v_isSignNow σ52 (44)) = 0) => ?_)
                    ·
                      have w := w.1 h74
                      refine wk_b tt_318 1 (pc' := 167) (ls' := [(0, .inr (.inr (.ref 88))), (1, .inl (a1))]) (st' := [.inl (0)]) (σ' := σ52) rfl ?_
                      exact wk_ls [(0, .inr (.inr (.ref 88))), (1, .inl (a1))] rfl ⟨rfl, rfl, trivial⟩ (jn56 (0) (by simp only [if_neg (show ¬ (¬ (sg_g σ52 88 29) = 0) by omega), if_pos h74]) (by decide))
                    ·
                      have w := w.2 h74
                      refine wk_b tt_318 2 (pc' := 167) (ls' := [(0, .inr (.inr (.ref 88))), (1, .inl (a1))]) (st' := [.inl (1)]) (σ' := σ52) rfl ?_
                      exact wk_ls [(0, .inr (.inr (.ref 88))), (1, .inl (a1))] rfl ⟨rfl, rfl, trivial⟩ (jn56 (1) (by simp only [if_neg (show ¬ (¬ (sg_g σ52 88 29) = 0) by omega), if_neg (show ¬ ((v_isSignNow σ52 (44)) = 0) by omega)]) (by decide))
                refine wk_if tt_318 (tgt := 146) rfl rfl (sg_Rg _ _ _) (fun (h49 : ¬ (sg_g σ46 88 29) = 0) => ?_) (fun (h49 : (sg_g σ46 88 29) = 0) => ?_)
                ·
                  have w := w.1 h49
                  exact wk_ls [(0, .inr (.inr (.ref 88))), (1, .inl (a1))] rfl ⟨rfl, rfl, trivial⟩ (jn50 σ46 (sg_F_r [106, 109, 8088, 30088, 31088] σ46) w)
                ·
                  have w := w.2 h49
                  refine wk_b tt_318 4 (pc' := 132) (ls' := [(0, .inr (.inr (.ref 88))), (1, .inl (a1)), (3, .inl (((6 * a1) + (sg_g σ8 106 (a1)))))]) (st' := [.inr (.inr (.ref 88)), .inl (((6 * a1) + (sg_g σ8 106 (a1)))), .inr (.inr (.ref 109))]) (σ' := σ46) rfl ?_
                  refine wk_call tt_318 rfl rfl rfl rfl rfl tt_319 rfl (by decide) (w_readType z σ46  _  w) (fun u80 σ76 hq78 => ?_)
                  obtain ⟨q75, rfl, r79, hF77, w⟩ := hq78
                  have w := w r79 hF77
                  refine wk_is tt_318 rfl rfl c29.1 c29.2 c27 ?_
                  generalize hs82 : (sg_w σ76 109 (((6 * a1) + (sg_g σ8 106 (a1)))) (q75)) = σ81
                  have w := w σ81 hs82.symm
                  have hF83 : sg_F [109] σ76 σ81 := by rw [← hs82]; exact sg_F_w (sg_F_r _ _) rfl _
                  refine wk_b tt_318 4 (pc' := 142) (ls' := [(0, .inr (.inr (.ref 88))), (1, .inl (a1)), (3, .inl (((6 * a1) + (sg_g σ8 106 (a1)))))]) (st' := [.inl (a1), .inr (.inr (.ref 106)), .inl (a1), .inr (.inr (.ref 106))]) (σ' := σ81) rfl ?_
                  refine wk_ia tt_318 rfl rfl c24.1 c24.2 ra1 ?_
                  rw [show (sg_g σ81 106 (a1)) = (sg_g σ8 106 (a1)) from by rw [sg_F_ga hF83 rfl, sg_F_ga hF77 rfl, sg_F_ga hF47 rfl, sg_F_ga hF39 rfl, sg_F_ga hF35 rfl, sg_F_ga hF32 rfl]]
                  obtain ⟨c84, w⟩ := w
                  refine wk_b tt_318 2 (pc' := 145) (ls' := [(0, .inr (.inr (.ref 88))), (1, .inl (a1)), (3, .inl (((6 * a1) + (sg_g σ8 106 (a1)))))]) (st' := [.inl (((sg_g σ8 106 (a1)) + 1)), .inl (a1), .inr (.inr (.ref 106))]) (σ' := σ81) rfl ?_
                  refine wk_is tt_318 rfl rfl c24.1 c24.2 ra1 ?_
                  generalize hs86 : (sg_w σ81 106 (a1) (((sg_g σ8 106 (a1)) + 1))) = σ85
                  have w := w σ85 hs86.symm
                  have hF87 : sg_F [106] σ81 σ85 := by rw [← hs86]; exact sg_F_w (sg_F_r _ _) rfl _
                  exact wk_ls [(0, .inr (.inr (.ref 88))), (1, .inl (a1))] rfl ⟨rfl, rfl, trivial⟩ (jn50 σ85 (sg_F_t (sg_F_t (sg_F_t (sg_F_r [106, 109, 8088, 30088, 31088] σ46) (sg_F_m (L := [106, 109, 8088, 30088, 31088]) hF77 rfl)) (sg_F_m (L := [106, 109, 8088, 30088, 31088]) hF83 rfl)) (sg_F_m (L := [106, 109, 8088, 30088, 31088]) hF87 rfl)) w)
              refine wk_if tt_318 (tgt := 119) rfl rfl (sg_Rg _ _ _) (fun (h43 : ¬ (sg_g σ38 88 29) = 0) => ?_) (fun (h43 : (sg_g σ38 88 29) = 0) => ?_)
              ·
                have w := w.1 h43
                exact wk_ls [(0, .inr (.inr (.ref 88))), (1, .inl (a1)), (3, .inl (((6 * a1) + (sg_g σ8 106 (a1)))))] rfl ⟨rfl, rfl, rfl, trivial⟩ (jn44 σ38 (sg_F_r [8088, 30088, 31088] σ38) w)
              ·
                have w := w.2 h43
                refine wk_b tt_318 3 (pc' := 113) (ls' := [(3, .inl (((6 * a1) + (sg_g σ8 106 (a1))))), (0, .inr (.inr (.ref 88))), (1, .inl (a1)), (2, .inl (v7))]) (st' := [.inl (58), .inr (.inr (.ref 88)), .inr (.inr (.ref 88))]) (σ' := σ38) rfl ?_
                obtain ⟨c88, w⟩ := w
                refine wk_callp tt_318 rfl rfl rfl rfl rfl tt_268 rfl (by decide) (w_isSignNow z σ38 (58) (by decide) c88) ?_
                refine wk_call tt_318 rfl rfl rfl rfl rfl tt_334 rfl (by decide) (w_want z σ38 ((v_isSignNow σ38 (58))) _ (sg_Rz (vz_isSignNow ..)) w) (fun u94 σ90 hq92 => ?_)
                obtain ⟨rfl, hF91, w⟩ := hq92
                have w := w hF91
                exact wk_ls [(0, .inr (.inr (.ref 88))), (1, .inl (a1)), (3, .inl (((6 * a1) + (sg_g σ8 106 (a1)))))] rfl ⟨rfl, rfl, rfl, trivial⟩ (jn44 σ90 (sg_F_t (sg_F_r [8088, 30088, 31088] σ38) (sg_F_m (L := [8088, 30088, 31088]) hF91 rfl)) w)
            ·
              have w := w.2 h25
              refine wk_b tt_318 6 (pc' := 47) (ls' := [(0, .inr (.inr (.ref 88))), (1, .inl (a1)), (2, .inl (v7))]) (st' := [.inl ((sg_g σ8 88 7)), .inr (.inr (.ref 91)), .inl (1), .inr (.inr (.ref 88))]) (σ' := σ8) rfl ?_
              obtain ⟨c95, w⟩ := w
              refine wk_ia tt_318 rfl rfl c95.1 c95.2 (sg_Rg _ _ _) ?_
              rw [show (sg_g σ8 91 ((sg_g σ8 88 7))) = (sg_g σ 91 ((sg_g σ8 88 7))) from by rw [sg_F_ga hF9 rfl]]
              refine wk_call tt_318 rfl rfl rfl rfl rfl tt_336 rfl (by decide) (w_wrong z σ8 (1) ((sg_g σ 91 ((sg_g σ8 88 7)))) _ (by decide) (sg_Rg _ _ _) w) (fun u101 σ97 hq99 => ?_)
              obtain ⟨rfl, hF98, w⟩ := hq99
              have w := w hF98
              exact wk_rV tt_318 rfl rfl ⟨rfl, (sg_F_t (sg_F_t (sg_F_r [106, 107, 108, 109, 8088, 30088, 31088] σ) (sg_F_m (L := [106, 107, 108, 109, 8088, 30088, 31088]) hF9 rfl)) (sg_F_m (L := [106, 107, 108, 109, 8088, 30088, 31088]) hF98 rfl)), w⟩
    exact wk_ls [(0, .inr (.inr (.ref 88))), (1, .inl (a1)), (2, .inl (v4))] rfl ⟨rfl, rfl, rfl, trivial⟩ (lp16 μ11 (v4) σ r5 (sg_F_r _ _) w17)
  refine wk_if tt_318 (tgt := 13) rfl rfl (sg_Rz (vz_isSignNow ..)) (fun (h2 : ¬ (v_isSignNow σ (41)) = 0) => ?_) (fun (h2 : (v_isSignNow σ (41)) = 0) => ?_)
  ·
    clear w
    refine wk_b tt_318 1 (pc' := 14) (ls' := [(0, .inr (.inr (.ref 88))), (1, .inl (a1))]) (st' := [.inl (0)]) (σ' := σ) rfl ?_
    exact wk_ls [(0, .inr (.inr (.ref 88))), (1, .inl (a1))] rfl ⟨rfl, rfl, trivial⟩ (jn3 (0) (by simp only [if_pos h2]) (by decide))
  ·
    clear w
    refine wk_b tt_318 2 (pc' := 14) (ls' := [(0, .inr (.inr (.ref 88))), (1, .inl (a1))]) (st' := [.inl (1)]) (σ' := σ) rfl ?_
    exact wk_ls [(0, .inr (.inr (.ref 88))), (1, .inl (a1))] rfl ⟨rfl, rfl, trivial⟩ (jn3 (1) (by simp only [if_neg (show ¬ (¬ (v_isSignNow σ (41)) = 0) by omega)]) (by decide))
-- NestedVectorsModel.readWhole
def V_readWhole (σ : sg_S) (Q : Int → sg_S → Prop) : Prop := ∀ σ1, σ1 = (sg_w σ 88 31 (0)) → ∀ σ4, σ4 = (sg_w σ1 88 34 (0)) → ∀ σ7, σ7 = (sg_w σ4 88 36 (0)) → V_pile σ7 (0) (0) (fun σ11 => sg_F [110, 111, 32088] σ7 σ11 → (∃ (I18 : Nat → sg_S → Prop) (X20 : sg_S → Prop), (∃ n, I18 n σ11) ∧ (∀ (n27 : Nat) (σ16 : sg_S), sg_F [93, 94, 95, 96, 97, 98, 99, 100, 110, 111, 112, 8088, 9088, 30088, 31088, 32088, 35088, 37088] σ11 σ16 → I18 n27 σ16 → (((sg_g σ16 88 31) ≤ 0 → X20 σ16) ∧ (0 < (sg_g σ16 88 31) → ((¬ (sg_g σ16 88 29) = 0 → X20 σ16) ∧ ((sg_g σ16 88 29) = 0 → sg_R ((sg_g σ16 88 31) - 1) ∧ ∀ σ39, σ39 = (sg_w σ16 88 31 (((sg_g σ16 88 31) - 1))) → (0 ≤ ((sg_g σ16 88 31) - 1) ∧ ((sg_g σ16 88 31) - 1) < 4000) ∧ V_goOn σ39 ((sg_g σ16 110 (((sg_g σ16 88 31) - 1)))) ((sg_g σ16 111 (((sg_g σ16 88 31) - 1)))) (fun σ44 => sg_F [93, 94, 95, 96, 97, 98, 99, 100, 110, 111, 112, 8088, 9088, 30088, 31088, 32088, 35088, 37088] σ39 σ44 → (∃ m, m < n27 ∧ I18 m σ44))))))) ∧ (∀ (σ16 : sg_S), sg_F [93, 94, 95, 96, 97, 98, 99, 100, 110, 111, 112, 8088, 9088, 30088, 31088, 32088, 35088, 37088] σ11 σ16 → X20 σ16 → ((¬ (sg_g σ16 88 29) = 0 → Q (0) σ16) ∧ ((sg_g σ16 88 29) = 0 → V_popped σ16  (fun q30 σ31 => sg_R q30 → sg_F [35088] σ16 σ31 → Q (q30) σ31))))))
set_option maxHeartbeats 4000000 in
set_option maxRecDepth 8000 in
theorem w_readWhole (z : Value) (σ : sg_S) (Q : Int → sg_S → Prop)  (w : V_readWhole σ  Q) : wx z 8 320 0 [(0, .inr (.inr (.ref 88)))] [] σ (fun v σ' => ∃ q, v = some (.inl q) ∧ sg_R q ∧ sg_F [93, 94, 95, 96, 97, 98, 99, 100, 110, 111, 112, 8088, 9088, 30088, 31088, 32088, 35088, 37088] σ σ' ∧ Q q σ') := by
  unfold V_readWhole at w
  refine wk_b tt_320 3 (pc' := 5) (ls' := [(0, .inr (.inr (.ref 88)))]) (st' := []) (σ' := (sg_w σ 88 31 (0))) rfl ?_
  generalize hs2 : (sg_w σ 88 31 (0)) = σ1
  have w := w σ1 hs2.symm
  have hF3 : sg_F [32088] σ σ1 := by rw [← hs2]; exact sg_F_w (sg_F_r _ _) rfl _
  refine wk_b tt_320 3 (pc' := 10) (ls' := [(0, .inr (.inr (.ref 88)))]) (st' := []) (σ' := (sg_w σ1 88 34 (0))) rfl ?_
  generalize hs5 : (sg_w σ1 88 34 (0)) = σ4
  have w := w σ4 hs5.symm
  have hF6 : sg_F [35088] σ1 σ4 := by rw [← hs5]; exact sg_F_w (sg_F_r _ _) rfl _
  refine wk_b tt_320 3 (pc' := 15) (ls' := [(0, .inr (.inr (.ref 88)))]) (st' := []) (σ' := (sg_w σ4 88 36 (0))) rfl ?_
  generalize hs8 : (sg_w σ4 88 36 (0)) = σ7
  have w := w σ7 hs8.symm
  have hF9 : sg_F [37088] σ4 σ7 := by rw [← hs8]; exact sg_F_w (sg_F_r _ _) rfl _
  refine wk_b tt_320 3 (pc' := 18) (ls' := [(0, .inr (.inr (.ref 88)))]) (st' := [.inl (0), .inl (0), .inr (.inr (.ref 88))]) (σ' := σ7) rfl ?_
  refine wk_call tt_320 rfl rfl rfl rfl rfl tt_305 rfl (by decide) (w_pile z σ7 (0) (0) _ (by decide) (by decide) w) (fun u15 σ11 hq13 => ?_)
  obtain ⟨rfl, hF12, w⟩ := hq13
  have w := w hF12
  obtain ⟨I18, X20, ⟨μ19, w24⟩, w25, w26⟩ := w
  have ex28 : ∀ (σ16 : sg_S), sg_F [93, 94, 95, 96, 97, 98, 99, 100, 110, 111, 112, 8088, 9088, 30088, 31088, 32088, 35088, 37088] σ11 σ16 → X20 σ16 → wx z 8 320 70 [(0, .inr (.inr (.ref 88)))] [] σ16 (fun v σ' => ∃ q, v = some (.inl q) ∧ sg_R q ∧ sg_F [93, 94, 95, 96, 97, 98, 99, 100, 110, 111, 112, 8088, 9088, 30088, 31088, 32088, 35088, 37088] σ σ' ∧ Q q σ') := by
    intro σ16 hF17 w
    have w := w26 σ16 hF17 w
    refine wk_b tt_320 2 (pc' := 74) (ls' := [(0, .inr (.inr (.ref 88)))]) (st' := [.inl ((sg_g σ16 88 29))]) (σ' := σ16) rfl ?_
    refine wk_if tt_320 (tgt := 84) rfl rfl (sg_Rg _ _ _) (fun (h29 : ¬ (sg_g σ16 88 29) = 0) => ?_) (fun (h29 : (sg_g σ16 88 29) = 0) => ?_)
    ·
      have w := w.1 h29
      refine wk_b tt_320 1 (pc' := 85) (ls' := [(0, .inr (.inr (.ref 88)))]) (st' := [.inl (0)]) (σ' := σ16) rfl ?_
      exact wk_rI tt_320 rfl rfl ⟨_, rfl, (by decide), (sg_F_t (sg_F_t (sg_F_t (sg_F_t (sg_F_t (sg_F_r [93, 94, 95, 96, 97, 98, 99, 100, 110, 111, 112, 8088, 9088, 30088, 31088, 32088, 35088, 37088] σ) (sg_F_m (L := [93, 94, 95, 96, 97, 98, 99, 100, 110, 111, 112, 8088, 9088, 30088, 31088, 32088, 35088, 37088]) hF3 rfl)) (sg_F_m (L := [93, 94, 95, 96, 97, 98, 99, 100, 110, 111, 112, 8088, 9088, 30088, 31088, 32088, 35088, 37088]) hF6 rfl)) (sg_F_m (L := [93, 94, 95, 96, 97, 98, 99, 100, 110, 111, 112, 8088, 9088, 30088, 31088, 32088, 35088, 37088]) hF9 rfl)) (sg_F_m (L := [93, 94, 95, 96, 97, 98, 99, 100, 110, 111, 112, 8088, 9088, 30088, 31088, 32088, 35088, 37088]) hF12 rfl)) (sg_F_m (L := [93, 94, 95, 96, 97, 98, 99, 100, 110, 111, 112, 8088, 9088, 30088, 31088, 32088, 35088, 37088]) hF17 rfl)), w⟩
    ·
      have w := w.2 h29
      refine wk_b tt_320 1 (pc' := 78) (ls' := [(0, .inr (.inr (.ref 88)))]) (st' := [.inr (.inr (.ref 88))]) (σ' := σ16) rfl ?_
      refine wk_call tt_320 rfl rfl rfl rfl rfl tt_306 rfl (by decide) (w_popped z σ16  _  w) (fun u35 σ31 hq33 => ?_)
      obtain ⟨q30, rfl, r34, hF32, w⟩ := hq33
      have w := w r34 hF32
      refine wk_b tt_320 1 (pc' := 85) (ls' := [(0, .inr (.inr (.ref 88)))]) (st' := [.inl (q30)]) (σ' := σ31) rfl ?_
      exact wk_rI tt_320 rfl rfl ⟨_, rfl, r34, (sg_F_t (sg_F_t (sg_F_t (sg_F_t (sg_F_t (sg_F_t (sg_F_r [93, 94, 95, 96, 97, 98, 99, 100, 110, 111, 112, 8088, 9088, 30088, 31088, 32088, 35088, 37088] σ) (sg_F_m (L := [93, 94, 95, 96, 97, 98, 99, 100, 110, 111, 112, 8088, 9088, 30088, 31088, 32088, 35088, 37088]) hF3 rfl)) (sg_F_m (L := [93, 94, 95, 96, 97, 98, 99, 100, 110, 111, 112, 8088, 9088, 30088, 31088, 32088, 35088, 37088]) hF6 rfl)) (sg_F_m (L := [93, 94, 95, 96, 97, 98, 99, 100, 110, 111, 112, 8088, 9088, 30088, 31088, 32088, 35088, 37088]) hF9 rfl)) (sg_F_m (L := [93, 94, 95, 96, 97, 98, 99, 100, 110, 111, 112, 8088, 9088, 30088, 31088, 32088, 35088, 37088]) hF12 rfl)) (sg_F_m (L := [93, 94, 95, 96, 97, 98, 99, 100, 110, 111, 112, 8088, 9088, 30088, 31088, 32088, 35088, 37088]) hF17 rfl)) (sg_F_m (L := [93, 94, 95, 96, 97, 98, 99, 100, 110, 111, 112, 8088, 9088, 30088, 31088, 32088, 35088, 37088]) hF32 rfl)), w⟩
  have lp23 : ∀ (n27 : Nat) (σ16 : sg_S), sg_F [93, 94, 95, 96, 97, 98, 99, 100, 110, 111, 112, 8088, 9088, 30088, 31088, 32088, 35088, 37088] σ11 σ16 → I18 n27 σ16 → wx z 8 320 21 [(0, .inr (.inr (.ref 88)))] [] σ16 (fun v σ' => ∃ q, v = some (.inl q) ∧ sg_R q ∧ sg_F [93, 94, 95, 96, 97, 98, 99, 100, 110, 111, 112, 8088, 9088, 30088, 31088, 32088, 35088, 37088] σ σ' ∧ Q q σ') := by
    intro n27
    induction n27 using Nat.strongRecOn with
    | _ n27 ih21 =>
      intro σ16 hF17 w
      have w := w25 n27 σ16 hF17 w
      refine wk_b tt_320 2 (pc' := 25) (ls' := [(0, .inr (.inr (.ref 88)))]) (st' := [.inl ((sg_g σ16 88 31))]) (σ' := σ16) rfl ?_
      refine wk_if tt_320 (tgt := 70) rfl rfl (sg_Rg _ _ _) (fun (h36 : (sg_g σ16 88 31) ≤ 0) => ?_) (fun (h36 : 0 < (sg_g σ16 88 31)) => ?_)
      ·
        have w := w.1 h36
        exact wk_ls [(0, .inr (.inr (.ref 88)))] rfl ⟨rfl, trivial⟩ (ex28  σ16  (sg_F_t (sg_F_r [93, 94, 95, 96, 97, 98, 99, 100, 110, 111, 112, 8088, 9088, 30088, 31088, 32088, 35088, 37088] σ11) (sg_F_m (L := [93, 94, 95, 96, 97, 98, 99, 100, 110, 111, 112, 8088, 9088, 30088, 31088, 32088, 35088, 37088]) hF17 rfl)) w)
      ·
        have w := w.2 h36
        refine wk_b tt_320 2 (pc' := 32) (ls' := [(0, .inr (.inr (.ref 88)))]) (st' := [.inl ((sg_g σ16 88 29))]) (σ' := σ16) rfl ?_
        refine wk_if tt_320 (tgt := 70) rfl rfl (sg_Rg _ _ _) (fun (h37 : ¬ (sg_g σ16 88 29) = 0) => ?_) (fun (h37 : (sg_g σ16 88 29) = 0) => ?_)
        ·
          have w := w.1 h37
          exact wk_ls [(0, .inr (.inr (.ref 88)))] rfl ⟨rfl, trivial⟩ (ex28  σ16  (sg_F_t (sg_F_r [93, 94, 95, 96, 97, 98, 99, 100, 110, 111, 112, 8088, 9088, 30088, 31088, 32088, 35088, 37088] σ11) (sg_F_m (L := [93, 94, 95, 96, 97, 98, 99, 100, 110, 111, 112, 8088, 9088, 30088, 31088, 32088, 35088, 37088]) hF17 rfl)) w)
        ·
          have w := w.2 h37
          obtain ⟨c38, w⟩ := w
          refine wk_b tt_320 6 (pc' := 45) (ls' := [(0, .inr (.inr (.ref 88)))]) (st' := []) (σ' := (sg_w σ16 88 31 (((sg_g σ16 88 31) - 1)))) rfl ?_
          generalize hs40 : (sg_w σ16 88 31 (((sg_g σ16 88 31) - 1))) = σ39
          have w := w σ39 hs40.symm
          have hF41 : sg_F [32088] σ16 σ39 := by rw [← hs40]; exact sg_F_w (sg_F_r _ _) rfl _
          refine wk_b tt_320 5 (pc' := 54) (ls' := [(0, .inr (.inr (.ref 88)))]) (st' := [.inl ((sg_g σ39 88 31)), .inr (.inr (.ref 110)), .inr (.inr (.ref 88))]) (σ' := σ39) rfl ?_
          rw [show (sg_g σ39 88 31) = ((sg_g σ16 88 31) - 1) from by rw [(show sg_g σ39 88 31 = ((sg_g σ16 88 31) - 1) from by rw [← hs40]; exact sg_gw_e _ _ _ _ c38)]]
          obtain ⟨c42, w⟩ := w
          refine wk_ia tt_320 rfl rfl c42.1 c42.2 c38 ?_
          rw [show (sg_g σ39 110 (((sg_g σ16 88 31) - 1))) = (sg_g σ16 110 (((sg_g σ16 88 31) - 1))) from by rw [sg_F_ga hF41 rfl]]
          refine wk_b tt_320 4 (pc' := 63) (ls' := [(0, .inr (.inr (.ref 88)))]) (st' := [.inl ((sg_g σ39 88 31)), .inr (.inr (.ref 111)), .inl ((sg_g σ16 110 (((sg_g σ16 88 31) - 1)))), .inr (.inr (.ref 88))]) (σ' := σ39) rfl ?_
          rw [show (sg_g σ39 88 31) = ((sg_g σ16 88 31) - 1) from by rw [(show sg_g σ39 88 31 = ((sg_g σ16 88 31) - 1) from by rw [← hs40]; exact sg_gw_e _ _ _ _ c38)]]
          refine wk_ia tt_320 rfl rfl c42.1 c42.2 c38 ?_
          rw [show (sg_g σ39 111 (((sg_g σ16 88 31) - 1))) = (sg_g σ16 111 (((sg_g σ16 88 31) - 1))) from by rw [sg_F_ga hF41 rfl]]
          refine wk_call tt_320 rfl rfl rfl rfl rfl tt_253 rfl (by decide) (w_goOn z σ39 ((sg_g σ16 110 (((sg_g σ16 88 31) - 1)))) ((sg_g σ16 111 (((sg_g σ16 88 31) - 1)))) _ (sg_Rg _ _ _) (sg_Rg _ _ _) w) (fun u48 σ44 hq46 => ?_)
          obtain ⟨rfl, hF45, w⟩ := hq46
          have w := w hF45
          refine wk_b tt_320 1 (pc' := 21) (ls' := [(0, .inr (.inr (.ref 88)))]) (st' := []) (σ' := σ44) rfl ?_
          obtain ⟨m49, hm49, w⟩ := w
          exact wk_ls [(0, .inr (.inr (.ref 88)))] rfl ⟨rfl, trivial⟩ (ih21 m49 hm49  σ44  (sg_F_t (sg_F_t (sg_F_t (sg_F_r [93, 94, 95, 96, 97, 98, 99, 100, 110, 111, 112, 8088, 9088, 30088, 31088, 32088, 35088, 37088] σ11) (sg_F_m (L := [93, 94, 95, 96, 97, 98, 99, 100, 110, 111, 112, 8088, 9088, 30088, 31088, 32088, 35088, 37088]) hF17 rfl)) (sg_F_m (L := [93, 94, 95, 96, 97, 98, 99, 100, 110, 111, 112, 8088, 9088, 30088, 31088, 32088, 35088, 37088]) hF41 rfl)) (sg_F_m (L := [93, 94, 95, 96, 97, 98, 99, 100, 110, 111, 112, 8088, 9088, 30088, 31088, 32088, 35088, 37088]) hF45 rfl)) w)
  exact wk_ls [(0, .inr (.inr (.ref 88)))] rfl ⟨rfl, trivial⟩ (lp23 μ19  σ11  (sg_F_r _ _) w24)
